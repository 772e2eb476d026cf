section WLplans
def Gr (g : wG) (z : wZ) (sz : Nat) (g' : wG) (z' : wZ) : Prop := g'.1 = g.1 ∧ g'.2.1 = g.2.1 ∧ (∀ k i, wAl z k i → g'.2.2 k i = g.2.2 k i) ∧ (∀ k i, wAl z' k i → wB g z sz (g'.2.2 k i)) ∧ z.1 ≤ z'.1 ∧ z.2 ≤ z'.2
theorem Gr.rf {g : wG} {z : wZ} {sz : Nat} : Gr g z sz g z := ⟨rfl, rfl, fun _ _ _ => rfl, fun k i h => Or.inl ⟨k, i, h, rfl⟩, Nat.le_refl _, Nat.le_refl _⟩
/-- what an operation of the law leaves: it says yes, and the three are one again -/
def oP (g : wG) (z : wZ) (sz nw : Nat) (O : wO) : wPost := fun v' g' z' I' P' O' => O' = O ∧ v' = some (.int 1) ∧ Gr g z sz g' z' ∧ ∃ J', Stt z' nw I' P' J'
theorem who_9 {v : Nat} (h : v < 9) : nI v - nI 1 = -1 ∨ ∃ s, s < 8 ∧ nI v - nI 1 = nI s := by
  by_cases e : v = 0
  · left; rw [e]; decide
  · right; exact ⟨v - 1, by omega, pk_sub (by omega)⟩
theorem who_5 {v : Nat} (h : v < 5) : dom4 (nI v - nI 1) := by
  by_cases e : v = 0
  · left; rw [e]; decide
  · right; exact ⟨v - 1, by omega, pk_sub (by omega)⟩
theorem or_nt {t b : Nat} (ht : t ≤ 3) (hb : b ≤ 2) : nI t ||| nI b = nI (t ||| b) ∧ t ||| b ≤ 3 := by
  rcases (show t = 0 ∨ t = 1 ∨ t = 2 ∨ t = 3 by omega) with rfl | rfl | rfl | rfl <;> rcases (show b = 0 ∨ b = 1 ∨ b = 2 by omega) with rfl | rfl | rfl <;> decide
theorem Stt.th0 {z : wZ} {nw : Nat} {I : wI} {P : wP} {J : wI} (S : Stt z nw I P J) : Stt z nw I P (th J 0) := ⟨S.s.thr 0, S.y.thr 0, S.r⟩
set_option maxRecDepth 20000 in
theorem l_pl0 {K : wK} {z : wZ} {I : wI} {P : wP} {O : wO} {nw : Nat} {J : wI} {sz : Nat} (hfl : (Kl K).stackTraces = false) (C : Cx K cL_plans RL 20 (some .boolean) { frames := 8, cells := 2, slots := 14, locals := 150 } z) (hR : Rq K (Kg K) z sz I P O 2 14 (oP (Kg K) z sz nw O) (fun _ => False)) (S : Stt z nw I P J) (hz : 0 < z.1) (hn9 : nw ≤ 900) {a : Nat} {v : Int32} (kk : ∀ r f0 d0 : Nat, r < 4 → f0 < 14 → d0 < 4 → G K z I P O 0 0 33 [(0, .ref ((Kg K).2.2 0 0)), (1, .int (nI a)), (2, .int v), (3, .ref ((Kg K).2.2 13 0)), (4, .ref ((Kg K).2.2 13 1)), (5, .ref ((Kg K).2.2 13 2)), (6, .ref ((Kg K).2.2 13 3)), (7, .ref ((Kg K).2.2 13 4)), (8, .ref ((Kg K).2.2 13 5)), (9, .ref ((Kg K).2.2 13 6)), (10, .int (nI r)), (11, .int (nI (nw + f0))), (12, .int (nI (1 + d0)))] []) : G K z I P O 0 0 0 [(0, .ref ((Kg K).2.2 0 0)), (1, .int (nI a)), (2, .int v), (3, .ref ((Kg K).2.2 13 0)), (4, .ref ((Kg K).2.2 13 1)), (5, .ref ((Kg K).2.2 13 2)), (6, .ref ((Kg K).2.2 13 3)), (7, .ref ((Kg K).2.2 13 4)), (8, .ref ((Kg K).2.2 13 5)), (9, .ref ((Kg K).2.2 13 6))] [] := by
  refine g_iload_n (pc' := 1) C dL_plans_0 rfl rfl ?_
  refine g_iconst (v := nI 4) (pc' := 2) C dL_plans_1 (by decide) rfl ?_
  refine g_callS (pc' := 5) (As := [.int (v), .int (nI 4)]) (S := []) C cs_L_65 (w_low (b := 4) (by omega) (by omega)) dL_plans_2 ⟨rfl, by decide +kernel, by decide +kernel, (by decide +kernel : (parseMethodDescriptor yL_low.desc).map (fun d => d.parameters.length) = some 2)⟩ ⟨⟨Nat.le_of_ble_eq_true rfl, Nat.le_of_ble_eq_true rfl⟩, rfl, rfl⟩ rfl (Nat.le_of_ble_eq_true rfl) ⟨Nat.zero_le _, Nat.zero_le _⟩ rfl (fun v1 I1 P1 q => ?_)
  obtain ⟨rfl, q1, q2⟩ := q
  rw [q1, q2]
  obtain ⟨r, hr, er⟩ : ∃ r, r < 4 ∧ lowN (v) 4 = r := ⟨_, lowN_lt (by omega), rfl⟩
  rw [er]
  refine g_istore (pc' := 7) C dL_plans_5 rfl rfl ?_
  refine g_aload (pc' := 9) C dL_plans_7 rfl rfl ?_
  refine g_iconst (v := nI 2) (pc' := 10) C dL_plans_9 (by decide) rfl ?_
  refine g_iald (pc' := 11) C (2) rfl (by show 2 < 3; omega) dL_plans_10 (al13 rfl) rfl rfl rfl ?_
  rw [S.y.q2]
  refine g_iload_n (pc' := 12) C dL_plans_11 rfl rfl ?_
  refine g_iconst (v := nI 2) (pc' := 13) C dL_plans_12 (by decide) rfl ?_
  refine g_ishr (pc' := 14) C dL_plans_13 rfl ?_
  refine g_bipush (v := nI 14) (pc' := 16) C dL_plans_14 (by decide) rfl ?_
  refine g_callS (pc' := 19) (As := [.int (v >>> (nI 2 &&& 31)), .int (nI 14)]) (S := [.int (nI nw)]) C cs_L_65 (w_low (b := 14) (by omega) (by omega)) dL_plans_16 ⟨rfl, by decide +kernel, by decide +kernel, (by decide +kernel : (parseMethodDescriptor yL_low.desc).map (fun d => d.parameters.length) = some 2)⟩ ⟨⟨Nat.le_of_ble_eq_true rfl, Nat.le_of_ble_eq_true rfl⟩, rfl, rfl⟩ rfl (Nat.le_of_ble_eq_true rfl) ⟨Nat.zero_le _, Nat.zero_le _⟩ rfl (fun v1 I1 P1 q => ?_)
  obtain ⟨rfl, q1, q2⟩ := q
  rw [q1, q2]
  obtain ⟨f0, hf0, ef0⟩ : ∃ r, r < 14 ∧ lowN (v >>> (nI 2 &&& 31)) 14 = r := ⟨_, lowN_lt (by omega), rfl⟩
  rw [ef0]
  refine g_iaddN (pc' := 20) C dL_plans_19 rfl ?_
  refine g_istore (pc' := 22) C dL_plans_20 rfl rfl ?_
  refine g_iconst (v := nI 1) (pc' := 23) C dL_plans_22 (by decide) rfl ?_
  refine g_iload_n (pc' := 24) C dL_plans_23 rfl rfl ?_
  refine g_iconst (v := nI 5) (pc' := 25) C dL_plans_24 (by decide) rfl ?_
  refine g_ishr (pc' := 26) C dL_plans_25 rfl ?_
  refine g_iconst (v := nI 4) (pc' := 27) C dL_plans_26 (by decide) rfl ?_
  refine g_callS (pc' := 30) (As := [.int (v >>> (nI 5 &&& 31)), .int (nI 4)]) (S := [.int (nI 1)]) C cs_L_65 (w_low (b := 4) (by omega) (by omega)) dL_plans_27 ⟨rfl, by decide +kernel, by decide +kernel, (by decide +kernel : (parseMethodDescriptor yL_low.desc).map (fun d => d.parameters.length) = some 2)⟩ ⟨⟨Nat.le_of_ble_eq_true rfl, Nat.le_of_ble_eq_true rfl⟩, rfl, rfl⟩ rfl (Nat.le_of_ble_eq_true rfl) ⟨Nat.zero_le _, Nat.zero_le _⟩ rfl (fun v1 I1 P1 q => ?_)
  obtain ⟨rfl, q1, q2⟩ := q
  rw [q1, q2]
  obtain ⟨d0, hd0, ed0⟩ : ∃ r, r < 4 ∧ lowN (v >>> (nI 5 &&& 31)) 4 = r := ⟨_, lowN_lt (by omega), rfl⟩
  rw [ed0]
  refine g_iaddN (pc' := 31) C dL_plans_30 rfl ?_
  refine g_istore (pc' := 33) C dL_plans_31 rfl rfl ?_
  exact G_pick [0, 1, 2, 3, 4, 5, 6, 7, 8, 9, 10, 11, 12] rfl (kk r f0 d0 hr hf0 hd0)
set_option maxRecDepth 20000 in
theorem l_plan {K : wK} {z : wZ} {I : wI} {P : wP} {O : wO} {nw : Nat} {J : wI} {sz : Nat} (hfl : (Kl K).stackTraces = false) (C : Cx K cL_plans RL 20 (some .boolean) { frames := 8, cells := 2, slots := 14, locals := 150 } z) (hR : Rq K (Kg K) z sz I P O 2 14 (oP (Kg K) z sz nw O) (fun _ => False)) (S : Stt z nw I P J) (hz : 0 < z.1) (hn9 : nw ≤ 900) {v : Int32} : G K z I P O 0 0 0 [(0, .ref ((Kg K).2.2 0 0)), (1, .int (nI 0)), (2, .int v), (3, .ref ((Kg K).2.2 13 0)), (4, .ref ((Kg K).2.2 13 1)), (5, .ref ((Kg K).2.2 13 2)), (6, .ref ((Kg K).2.2 13 3)), (7, .ref ((Kg K).2.2 13 4)), (8, .ref ((Kg K).2.2 13 5)), (9, .ref ((Kg K).2.2 13 6))] [] := by
  refine l_pl0 hfl C hR S hz hn9 (fun r f0 d0 hr hf0 hd0 => ?_)
  have hM8 := S.y.M8
  have hN16 := S.y.N16
  have A100 : ∀ (j : Nat) (w w9 : Int32), j < z.1 → dom4 w → G K z I P O 0 0 100 [(0, .ref ((Kg K).2.2 0 0)), (1, .int (nI 0)), (2, .int v), (3, .ref ((Kg K).2.2 13 0)), (4, .ref ((Kg K).2.2 13 1)), (5, .ref ((Kg K).2.2 13 2)), (6, .ref ((Kg K).2.2 13 3)), (7, .ref ((Kg K).2.2 13 4)), (8, .ref ((Kg K).2.2 13 5)), (9, .ref ((Kg K).2.2 13 6)), (10, .int (nI r)), (11, .int (nI (nw + f0))), (12, .int (nI (1 + d0))), (13, .int (nI j)), (14, .int w9)] [.int w] := by
    intro j w w9 hlm hw
    have hK := fun (hN : z.2 < 16) => K8_v S.y hlm hr hw (f := nw + f0) (d := 1 + d0) (by omega) (by omega) (by omega) hN
    have hcK : ∀ I2, Oth I I2 → cK8 I2 P z.1 z.2 (nI j) (nI r) w (nI (nw + f0)) (nI (1 + d0)) = mK8 J z.1 z.2 (nI j) (nI r) w (nI (nw + f0)) (nI (1 + d0)) := fun I2 hO => cK8_eq (S.s.oth hO)
    obtain ⟨sp, hsp4, hsp1, hsp2⟩ := sp_of hw
    obtain ⟨a0, -, -, -, hl4, -, -, a7, a8, -⟩ := S.y.m.2.1 j hlm
    have a0n : I 13 0 (8 * j) = nI (stN J j) := a0.trans a7
    have err : z.2 < 16 → ∀ cn due : Int32, ¬ mK8 J z.1 z.2 (nI j) (nI r) w (nI (nw + f0)) (nI (1 + d0)) = 0 → due = (if mK8 J z.1 z.2 (nI j) (nI r) w (nI (nw + f0)) (nI (1 + d0)) = 2 then -100002 else -100003) → G K z I P O 0 0 288 [(0, .ref ((Kg K).2.2 0 0)), (1, .int (nI 0)), (2, .int v), (3, .ref ((Kg K).2.2 13 0)), (4, .ref ((Kg K).2.2 13 1)), (5, .ref ((Kg K).2.2 13 2)), (6, .ref ((Kg K).2.2 13 3)), (7, .ref ((Kg K).2.2 13 4)), (8, .ref ((Kg K).2.2 13 5)), (9, .ref ((Kg K).2.2 13 6)), (10, .int (nI r)), (11, .int (nI (nw + f0))), (12, .int (nI (1 + d0))), (13, .int (nI j)), (14, .int w), (15, .int cn), (16, .int due)] [] := by
      intro hN cn due hk0 hdue
      have hK := hK hN
      refine g_aload_n (pc' := 289) C dL_plans_288 rfl rfl ?_
      refine g_iconst (v := nI 0) (pc' := 290) C dL_plans_289 (by decide) rfl ?_
      refine g_iload (pc' := 292) C dL_plans_290 rfl rfl ?_
      refine g_iload (pc' := 294) C dL_plans_292 rfl rfl ?_
      refine g_iload (pc' := 296) C dL_plans_294 rfl rfl ?_
      refine g_iload (pc' := 298) C dL_plans_296 rfl rfl ?_
      refine g_iload (pc' := 300) C dL_plans_298 rfl rfl ?_
      refine x_callS (pc' := 303) (mc := 2) (ms := 14) (As := [.ref ((Kg K).2.2 0 0), .int (nI 0), .int (nI j), .int (nI r), .int w, .int (nI (nw + f0)), .int (nI (1 + d0))]) (S := []) C hR.k cw_L_calls (fun sz => w_c_plan hfl S.s.X S.r (by rw [hcK I Oth.rf, hK]; split; decide; split <;> decide) sz) dL_plans_300 ⟨by decide +kernel, by decide +kernel, (by decide +kernel : (parseMethodDescriptor yL_calls.desc).map (fun d => d.parameters.length) = some 7)⟩ ⟨⟨Nat.le_of_ble_eq_true rfl, Nat.le_of_ble_eq_true rfl⟩, rfl, rfl⟩ rfl (Nat.le_of_ble_eq_true rfl) ⟨Nat.le_of_ble_eq_true rfl, Nat.le_of_ble_eq_true rfl⟩ rfl (fun sz' v' g' z' I' P' O' hA' hp => ?_)
      obtain ⟨qO, hp⟩ := hp
      rcases hp with ⟨hk, -⟩ | ⟨hk, q0, q1, q2, q3, q4⟩
      · exact absurd hk (by rw [hcK I Oth.rf]; exact hk0)
      rw [q0, q1, q2, q3, q4, qO, Kw_self, hcK I Oth.rf, ← hdue]
      refine g_iload (pc' := 305) C dL_plans_303 rfl rfl ?_
      refine g_icmp_ne (tgt := 312) (pc' := 308) C dL_plans_305 (by decide) rfl (fun c1 => absurd rfl c1) (fun c1 => ?_)
      refine g_iconst (v := nI 1) (pc' := 309) C dL_plans_308 (by decide) rfl ?_
      refine g_goto (tgt := 313) C dL_plans_309 (by decide) ?_
      exact x_zret C hR dL_plans_313 rfl (Nat.le_of_ble_eq_true rfl) (Nat.le_of_ble_eq_true rfl) ⟨rfl, by rw [nI1'], Gr.rf, J, S⟩
    have no_ : z.2 < 16 → ¬ (stN J j < 2 ∧ mFit J j w = true ∧ mRe J z.2 j (nI r) w (nI (nw + f0)) (nI (1 + d0)) (-1) = 0) → G K z I P O 0 0 163 [(0, .ref ((Kg K).2.2 0 0)), (1, .int (nI 0)), (2, .int v), (3, .ref ((Kg K).2.2 13 0)), (4, .ref ((Kg K).2.2 13 1)), (5, .ref ((Kg K).2.2 13 2)), (6, .ref ((Kg K).2.2 13 3)), (7, .ref ((Kg K).2.2 13 4)), (8, .ref ((Kg K).2.2 13 5)), (9, .ref ((Kg K).2.2 13 6)), (10, .int (nI r)), (11, .int (nI (nw + f0))), (12, .int (nI (1 + d0))), (13, .int (nI j)), (14, .int w)] [] := by
      intro hN hno
      have hK := hK hN
      rw [if_neg hno] at hK
      refine g_iconst (v := nI 0) (pc' := 164) C dL_plans_163 (by decide) rfl ?_
      refine g_istore (pc' := 166) C dL_plans_164 rfl rfl ?_
      refine g_iload (pc' := 168) C dL_plans_166 rfl rfl ?_
      refine g_aload (pc' := 170) C dL_plans_168 rfl rfl ?_
      refine g_iconst (v := nI 2) (pc' := 171) C dL_plans_170 (by decide) rfl ?_
      refine g_iald (pc' := 172) C (2) rfl (by show 2 < 3; omega) dL_plans_171 (al13 rfl) rfl rfl rfl ?_
      rw [S.y.q2]
      refine g_icmp_gtN (tgt := 180) (pc' := 175) C (by omega) (by omega) dL_plans_172 (by decide) rfl (fun c1 => ?_) (fun c1 => ?_)
      ·
        refine g_iload (pc' := 182) C dL_plans_180 rfl rfl ?_
        refine g_if_eq (tgt := 192) (pc' := 185) C dL_plans_182 (by decide) rfl (fun c2 => ?_) (fun c2 => absurd (by decide) c2)
        refine g_ldc (v := (-100003)) (pc' := 194) C kL_46 dL_plans_192 rfl ?_
        refine g_istore (pc' := 196) C dL_plans_194 rfl rfl ?_
        refine g_iload (pc' := 198) C dL_plans_196 rfl rfl ?_
        refine g_if_lt (tgt := 288) (pc' := 201) C dL_plans_198 (by decide) rfl (fun c3 => ?_) (fun c3 => absurd (by decide) c3)
        have hv := hK
        rw [if_neg (c := nw + f0 ≤ nw) (by omega)] at hv
        exact err hN (nI 0) (-100003) (by rw [hv]; decide) (by rw [hv]; decide)
      ·
        refine g_ldc (v := (-100002)) (pc' := 177) C kL_43 dL_plans_175 rfl ?_
        refine g_goto (tgt := 194) C dL_plans_177 (by decide) ?_
        refine g_istore (pc' := 196) C dL_plans_194 rfl rfl ?_
        refine g_iload (pc' := 198) C dL_plans_196 rfl rfl ?_
        refine g_if_lt (tgt := 288) (pc' := 201) C dL_plans_198 (by decide) rfl (fun c4 => ?_) (fun c4 => absurd (by decide) c4)
        have hv := hK
        rw [if_pos (c := nw + f0 ≤ nw) (by omega)] at hv
        exact err hN (nI 0) (-100002) (by rw [hv]; decide) (by rw [hv]; decide)
    have yes_ : z.2 < 16 → (stN J j < 2 ∧ mFit J j w = true ∧ mRe J z.2 j (nI r) w (nI (nw + f0)) (nI (1 + d0)) (-1) = 0) → G K z I P O 0 0 159 [(0, .ref ((Kg K).2.2 0 0)), (1, .int (nI 0)), (2, .int v), (3, .ref ((Kg K).2.2 13 0)), (4, .ref ((Kg K).2.2 13 1)), (5, .ref ((Kg K).2.2 13 2)), (6, .ref ((Kg K).2.2 13 3)), (7, .ref ((Kg K).2.2 13 4)), (8, .ref ((Kg K).2.2 13 5)), (9, .ref ((Kg K).2.2 13 6)), (10, .int (nI r)), (11, .int (nI (nw + f0))), (12, .int (nI (1 + d0))), (13, .int (nI j)), (14, .int w)] [] := by
      intro hN hyes
      have hK := hK hN
      rw [if_pos hyes] at hK
      refine g_iconst (v := nI 1) (pc' := 160) C dL_plans_159 (by decide) rfl ?_
      refine g_goto (tgt := 164) C dL_plans_160 (by decide) ?_
      refine g_istore (pc' := 166) C dL_plans_164 rfl rfl ?_
      refine g_iload (pc' := 168) C dL_plans_166 rfl rfl ?_
      refine g_aload (pc' := 170) C dL_plans_168 rfl rfl ?_
      refine g_iconst (v := nI 2) (pc' := 171) C dL_plans_170 (by decide) rfl ?_
      refine g_iald (pc' := 172) C (2) rfl (by show 2 < 3; omega) dL_plans_171 (al13 rfl) rfl rfl rfl ?_
      rw [S.y.q2]
      refine g_icmp_gtN (tgt := 180) (pc' := 175) C (by omega) (by omega) dL_plans_172 (by decide) rfl (fun c1 => ?_) (fun c1 => ?_)
      ·
        refine g_iload (pc' := 182) C dL_plans_180 rfl rfl ?_
        refine g_if_eq (tgt := 192) (pc' := 185) C dL_plans_182 (by decide) rfl (fun c2 => absurd c2 (by decide)) (fun c2 => ?_)
        refine g_aload (pc' := 187) C dL_plans_185 rfl rfl ?_
        refine g_iconst (v := nI 1) (pc' := 188) C dL_plans_187 (by decide) rfl ?_
        refine g_iald (pc' := 189) C (1) rfl (by show 1 < 3; omega) dL_plans_188 (al13 rfl) rfl rfl rfl ?_
        rw [S.y.q1]
        refine g_goto (tgt := 194) C dL_plans_189 (by decide) ?_
        refine g_istore (pc' := 196) C dL_plans_194 rfl rfl ?_
        refine g_iload (pc' := 198) C dL_plans_196 rfl rfl ?_
        refine g_if_lt (tgt := 288) (pc' := 201) C dL_plans_198 (by decide) rfl (fun c3 => absurd c3 (nI_pos (by omega))) (fun c3 => ?_)
        refine g_aload (pc' := 203) C dL_plans_201 rfl rfl ?_
        refine g_iconst (v := nI 1) (pc' := 204) C dL_plans_203 (by decide) rfl ?_
        refine g_iald (pc' := 205) C (1) rfl (by show 1 < 3; omega) dL_plans_204 (al13 rfl) rfl rfl rfl ?_
        rw [S.y.q1]
        refine g_istore (pc' := 207) C dL_plans_205 rfl rfl ?_
        refine g_aload (pc' := 209) C dL_plans_207 rfl rfl ?_
        refine g_iconst (v := nI 4) (pc' := 210) C dL_plans_209 (by decide) rfl ?_
        refine g_iload (pc' := 212) C dL_plans_210 rfl rfl ?_
        refine g_imulN (pc' := 213) C dL_plans_212 rfl ?_
        refine g_iconst (v := nI 0) (pc' := 214) C dL_plans_213 (by decide) rfl ?_
        refine g_iast (pc' := 215) C (4 * z.2) rfl (by show _ < 64; omega) dL_plans_214 (al13 rfl) (fun _ => rfl) rfl rfl ?_
        refine g_aload (pc' := 217) C dL_plans_215 rfl rfl ?_
        refine g_iconst (v := nI 4) (pc' := 218) C dL_plans_217 (by decide) rfl ?_
        refine g_iload (pc' := 220) C dL_plans_218 rfl rfl ?_
        refine g_imulN (pc' := 221) C dL_plans_220 rfl ?_
        refine g_iconst (v := nI 1) (pc' := 222) C dL_plans_221 (by decide) rfl ?_
        refine g_iaddN (pc' := 223) C dL_plans_222 rfl ?_
        refine g_iload (pc' := 225) C dL_plans_223 rfl rfl ?_
        refine g_bipush (v := nI 16) (pc' := 227) C dL_plans_225 (by decide) rfl ?_
        refine g_iload (pc' := 229) C dL_plans_227 rfl rfl ?_
        refine g_imulN (pc' := 230) C dL_plans_229 rfl ?_
        refine g_iaddN (pc' := 231) C dL_plans_230 rfl ?_
        refine g_bipush (v := nI 64) (pc' := 233) C dL_plans_231 (by decide) rfl ?_
        refine g_iload (pc' := 235) C dL_plans_233 rfl rfl ?_
        refine g_iconst (v := nI 1) (pc' := 236) C dL_plans_235 (by decide) rfl ?_
        refine g_iadd (pc' := 237) C dL_plans_236 rfl ?_
        rw [hsp2]
        refine g_imulN (pc' := 238) C dL_plans_237 rfl ?_
        refine g_iaddN (pc' := 239) C dL_plans_238 rfl ?_
        refine g_iast (pc' := 240) C (4 * z.2 + 1) rfl (by show _ < 64; omega) dL_plans_239 (al13 rfl) (fun _ => rfl) rfl rfl ?_
        refine g_aload (pc' := 242) C dL_plans_240 rfl rfl ?_
        refine g_iconst (v := nI 4) (pc' := 243) C dL_plans_242 (by decide) rfl ?_
        refine g_iload (pc' := 245) C dL_plans_243 rfl rfl ?_
        refine g_imulN (pc' := 246) C dL_plans_245 rfl ?_
        refine g_iconst (v := nI 2) (pc' := 247) C dL_plans_246 (by decide) rfl ?_
        refine g_iaddN (pc' := 248) C dL_plans_247 rfl ?_
        refine g_iload (pc' := 250) C dL_plans_248 rfl rfl ?_
        refine g_iast (pc' := 251) C (4 * z.2 + 2) rfl (by show _ < 64; omega) dL_plans_250 (al13 rfl) (fun _ => rfl) rfl rfl ?_
        refine g_aload (pc' := 253) C dL_plans_251 rfl rfl ?_
        refine g_iconst (v := nI 4) (pc' := 254) C dL_plans_253 (by decide) rfl ?_
        refine g_iload (pc' := 256) C dL_plans_254 rfl rfl ?_
        refine g_imulN (pc' := 257) C dL_plans_256 rfl ?_
        refine g_iconst (v := nI 3) (pc' := 258) C dL_plans_257 (by decide) rfl ?_
        refine g_iaddN (pc' := 259) C dL_plans_258 rfl ?_
        refine g_iload (pc' := 261) C dL_plans_259 rfl rfl ?_
        refine g_iast (pc' := 262) C (4 * z.2 + 3) rfl (by show _ < 64; omega) dL_plans_261 (al13 rfl) (fun _ => rfl) rfl rfl ?_
        refine g_aload (pc' := 264) C dL_plans_262 rfl rfl ?_
        refine g_iconst (v := nI 1) (pc' := 265) C dL_plans_264 (by decide) rfl ?_
        have hq1 : (upI (upI (upI (upI I 13 1 (4 * z.2) (nI 0)) 13 1 (4 * z.2 + 1) (nI (j + 16 * r + 64 * sp))) 13 1 (4 * z.2 + 2) (nI (nw + f0))) 13 1 (4 * z.2 + 3) (nI (1 + d0))) 13 6 1 = nI z.2 := by
          rw [upI_at, if_neg (by omega), upI_at, if_neg (by omega), upI_at, if_neg (by omega), upI_at, if_neg (by omega)]
          exact S.y.q1
        refine g_dup2 (pc' := 266) C dL_plans_265 rfl rfl rfl ?_
        refine g_iald (pc' := 267) C (1) rfl (by show 1 < 3; omega) dL_plans_266 (al13 rfl) rfl rfl rfl ?_
        rw [hq1]
        refine g_iconst (v := nI 1) (pc' := 268) C dL_plans_267 (by decide) rfl ?_
        refine g_iaddN (pc' := 269) C dL_plans_268 rfl ?_
        refine g_iast (pc' := 270) C (1) rfl (by show 1 < 3; omega) dL_plans_269 (al13 rfl) (fun _ => rfl) rfl rfl ?_
        have hf' : nw < nw + f0 := c1
        have h14 := (S.s.A.f.2 z.2 (Nat.le_refl _) (by omega)).1
        have h20 := (S.s.A.f.2 z.2 (Nat.le_refl _) (by omega)).2
        have S2 : YS (fun q => q = z.2) (z.1, z.2 + 1) nw (mBase J z.2 (nI j) (nI r) w (nI (nw + f0)) (nI (1 + d0))) ((upI (upI (upI (upI (upI I 13 1 (4 * z.2) (nI 0)) 13 1 (4 * z.2 + 1) (nI (j + 16 * r + 64 * sp))) 13 1 (4 * z.2 + 2) (nI (nw + f0))) 13 1 (4 * z.2 + 3) (nI (1 + d0))) 13 6 (1) (nI (z.2 + 1))) 13) := by
          rw [upI_13, upI_13, upI_13, upI_13, upI_13]
          exact S.y.plan hN h14 h20 hlm hr hsp1 hsp4 (by omega) (by omega)
        have hO2 : Oth I (upI (upI (upI (upI (upI I 13 1 (4 * z.2) (nI 0)) 13 1 (4 * z.2 + 1) (nI (j + 16 * r + 64 * sp))) 13 1 (4 * z.2 + 2) (nI (nw + f0))) 13 1 (4 * z.2 + 3) (nI (1 + d0))) 13 6 (1) (nI (z.2 + 1))) := Oth.rf.up.up.up.up.up
        have X2 : MI z.1 (z.2 + 1) (mBase J z.2 (nI j) (nI r) w (nI (nw + f0)) (nI (1 + d0))) := S.s.M.plan (by omega) hlm (by omega) (by omega) hw
        generalize (upI (upI (upI (upI (upI I 13 1 (4 * z.2) (nI 0)) 13 1 (4 * z.2 + 1) (nI (j + 16 * r + 64 * sp))) 13 1 (4 * z.2 + 2) (nI (nw + f0))) 13 1 (4 * z.2 + 3) (nI (1 + d0))) 13 6 (1) (nI (z.2 + 1))) = I5 at S2 hO2 ⊢
        have j18 : mBase J z.2 (nI j) (nI r) w (nI (nw + f0)) (nI (1 + d0)) 13 18 z.2 = nI (nw + f0) := by unfold mBase; simp [upI_at]
        refine g_iload (pc' := 272) C dL_plans_270 rfl rfl ?_
        refine g_aload_n (pc' := 273) C dL_plans_272 rfl rfl ?_
        refine g_aload (pc' := 275) C dL_plans_273 rfl rfl ?_
        refine g_aload (pc' := 277) C dL_plans_275 rfl rfl ?_
        refine g_aload (pc' := 279) C dL_plans_277 rfl rfl ?_
        refine g_aload (pc' := 281) C dL_plans_279 rfl rfl ?_
        refine g_aload (pc' := 283) C dL_plans_281 rfl rfl ?_
        refine g_aload (pc' := 285) C dL_plans_283 rfl rfl ?_
        refine g_callS (pc' := 288) (As := [.int (nI z.2), .ref ((Kg K).2.2 13 0), .ref ((Kg K).2.2 13 1), .ref ((Kg K).2.2 13 2), .ref ((Kg K).2.2 13 3), .ref ((Kg K).2.2 13 4), .ref ((Kg K).2.2 13 5), .ref ((Kg K).2.2 13 6)]) (S := []) C cs_L_77 (w_comes (y := (z.1, z.2 + 1)) (nw := nw) X2 S2 (Nat.lt_succ_self _) (by unfold mfr; rw [j18, nI_clamp (by omega)]; exact hf')) dL_plans_285 ⟨rfl, by decide +kernel, by decide +kernel, (by decide +kernel : (parseMethodDescriptor yL_comes.desc).map (fun d => d.parameters.length) = some 8)⟩ ⟨⟨Nat.le_of_ble_eq_true rfl, Nat.le_of_ble_eq_true rfl⟩, rfl, rfl⟩ rfl (Nat.le_of_ble_eq_true rfl) ⟨Nat.zero_le _, Nat.zero_le _⟩ rfl (fun v1 I1 P1 q => ?_)
        obtain ⟨rfl, q2, hO3, S3⟩ := q
        rw [q2]
        have S4 : YS (fun _ => False) (z.1, z.2 + 1) nw (mCm z.2 (mBase J z.2 (nI j) (nI r) w (nI (nw + f0)) (nI (1 + d0)))) (I1 13) := (S3.zeros (cm_zeros (z := (z.1, z.2 + 1)) X2 (Nat.lt_succ_self _))).wk (fun j _ q => q.2 q.1)
        have hO := hO2.tr hO3
        clear S3 S2 hO3 hO2 q2
        refine g_aload_n (pc' := 289) C dL_plans_288 rfl rfl ?_
        refine g_iconst (v := nI 0) (pc' := 290) C dL_plans_289 (by decide) rfl ?_
        refine g_iload (pc' := 292) C dL_plans_290 rfl rfl ?_
        refine g_iload (pc' := 294) C dL_plans_292 rfl rfl ?_
        refine g_iload (pc' := 296) C dL_plans_294 rfl rfl ?_
        refine g_iload (pc' := 298) C dL_plans_296 rfl rfl ?_
        refine g_iload (pc' := 300) C dL_plans_298 rfl rfl ?_
        have hK0 : mK8 J z.1 z.2 (nI j) (nI r) w (nI (nw + f0)) (nI (1 + d0)) = 0 := by rw [hK, if_neg (by omega)]
        refine x_callS (pc' := 303) (mc := 2) (ms := 14) (As := [.ref ((Kg K).2.2 0 0), .int (nI 0), .int (nI j), .int (nI r), .int w, .int (nI (nw + f0)), .int (nI (1 + d0))]) (S := []) C hR.k cw_L_calls (fun sz => w_c_plan hfl (S.s.oth hO).X S.r (by rw [hcK I1 hO, hK0]; decide) sz) dL_plans_300 ⟨by decide +kernel, by decide +kernel, (by decide +kernel : (parseMethodDescriptor yL_calls.desc).map (fun d => d.parameters.length) = some 7)⟩ ⟨⟨Nat.le_of_ble_eq_true rfl, Nat.le_of_ble_eq_true rfl⟩, rfl, rfl⟩ rfl (Nat.le_of_ble_eq_true rfl) ⟨Nat.le_of_ble_eq_true rfl, Nat.le_of_ble_eq_true rfl⟩ rfl (fun sz' v' g' z' I' P' O' hA' hp => ?_)
        obtain ⟨qO, hp⟩ := hp
        rcases hp with ⟨hk, q0, ⟨⟨b, c, hb, hc, q1⟩, q2⟩, q3, q4⟩ | ⟨hk, -⟩
        · have hb2 : Ka K b := hb.elim (fun ⟨k, i, hw, e⟩ => by rw [e]; exact Cx.al C hw) (hA' b)
          have hc2 : Ka K c := hc.elim (fun ⟨k, i, hw, e⟩ => by rw [e]; exact Cx.al C hw) (hA' c)
          subst q1
          subst q2
          subst q3
          subst q4
          subst q0
          have hB : ∀ k i, wAl (z.1, z.2 + 1) k i → Ka K ((gUp (gUp (Kg K) 3 z.2 b) 11 z.2 c).2.2 k i) := fun k i hw => by
            rcases wAl_H hw with hw | ⟨rfl, rfl⟩ | ⟨rfl, rfl⟩
            · rw [gUp_H hw]; exact Cx.al C hw
            · rw [show (gUp (gUp (Kg K) 3 z.2 b) 11 z.2 c).2.2 3 z.2 = b from by show (if 3 = 11 ∧ z.2 = z.2 then c else if 3 = 3 ∧ z.2 = z.2 then b else (Kg K).2.2 3 z.2) = b; simp]; exact hb2
            · rw [show (gUp (gUp (Kg K) 3 z.2 b) 11 z.2 c).2.2 11 z.2 = c from if_pos ⟨rfl, rfl⟩]; exact hc2
          have C' := C.up (g' := gUp (gUp (Kg K) 3 z.2 b) 11 z.2 c) rfl rfl hB
          have hR' := hR.up (gUp (gUp (Kg K) 3 z.2 b) 11 z.2 c)
          refine g_iload (pc' := 305) C' dL_plans_303 rfl rfl ?_
          refine g_icmp_neN (tgt := 312) (pc' := 308) C' (by omega) (by omega) dL_plans_305 (by decide) rfl (fun q => absurd rfl q) (fun _ => ?_)
          refine g_iconst (v := nI 1) (pc' := 309) C' dL_plans_308 (by decide) rfl ?_
          refine g_goto (tgt := 313) C' dL_plans_309 (by decide) ?_
          exact x_zret C' hR' dL_plans_313 rfl (Nat.le_of_ble_eq_true rfl) (Nat.le_of_ble_eq_true rfl) ⟨qO, by rw [nI1'], ⟨rfl, rfl, fun k i hw => gUp_H hw, fun k i hw => hR.ka (hB k i hw), Nat.le_refl _, Nat.le_succ _⟩, _, fin_plan S hO hlm hK0 S4⟩
        · exact absurd ((hcK I1 hO).trans hK0) hk
      ·
        refine g_ldc (v := (-100002)) (pc' := 177) C kL_43 dL_plans_175 rfl ?_
        refine g_goto (tgt := 194) C dL_plans_177 (by decide) ?_
        refine g_istore (pc' := 196) C dL_plans_194 rfl rfl ?_
        refine g_iload (pc' := 198) C dL_plans_196 rfl rfl ?_
        refine g_if_lt (tgt := 288) (pc' := 201) C dL_plans_198 (by decide) rfl (fun c4 => ?_) (fun c4 => absurd (by decide) c4)
        have hv := hK
        rw [if_pos (c := nw + f0 ≤ nw) (by omega)] at hv
        exact err hN (nI 1) (-100002) (by rw [hv]; decide) (by rw [hv]; decide)
    refine g_istore (pc' := 102) C dL_plans_100 rfl rfl ?_
    refine g_aload (pc' := 104) C dL_plans_102 rfl rfl ?_
    refine g_iconst (v := nI 1) (pc' := 105) C dL_plans_104 (by decide) rfl ?_
    refine g_iald (pc' := 106) C (1) rfl (by show 1 < 3; omega) dL_plans_105 (al13 rfl) rfl rfl rfl ?_
    rw [S.y.q1]
    refine g_bipush (v := nI 16) (pc' := 108) C dL_plans_106 (by decide) rfl ?_
    refine g_icmp_neN (tgt := 113) (pc' := 111) C (by omega) (by omega) dL_plans_108 (by decide) rfl (fun c1 => ?_) (fun c1 => ?_)
    ·
      have hN : z.2 < 16 := by omega
      refine g_aload_n (pc' := 114) C dL_plans_113 rfl rfl ?_
      refine g_bipush (v := nI 8) (pc' := 116) C dL_plans_114 (by decide) rfl ?_
      refine g_iload (pc' := 118) C dL_plans_116 rfl rfl ?_
      refine g_imulN (pc' := 119) C dL_plans_118 rfl ?_
      refine g_iald (pc' := 120) C (8 * j) rfl (by show _ < 64; omega) dL_plans_119 (al13 rfl) rfl rfl rfl ?_
      rw [a0n]
      refine g_iconst (v := nI 2) (pc' := 121) C dL_plans_120 (by decide) rfl ?_
      refine g_icmp_geN (tgt := 163) (pc' := 124) C (by omega) (by omega) dL_plans_121 (by decide) rfl (fun c2 => ?_) (fun c2 => ?_)
      ·
        have g1 : 2 ≤ stN J j := c2
        exact G_pick [0, 1, 2, 3, 4, 5, 6, 7, 8, 9, 10, 11, 12, 13, 14] rfl (no_ hN (fun q => by omega))
      ·
        have g1 : stN J j < 2 := c2
        refine g_iload (pc' := 126) C dL_plans_124 rfl rfl ?_
        refine g_iload (pc' := 128) C dL_plans_126 rfl rfl ?_
        refine g_aload_n (pc' := 129) C dL_plans_128 rfl rfl ?_
        refine g_aload (pc' := 131) C dL_plans_129 rfl rfl ?_
        refine g_callS (pc' := 134) (As := [.int (nI j), .int w, .ref ((Kg K).2.2 13 0), .ref ((Kg K).2.2 13 5)]) (S := []) C cs_L_69 (w_fits (J := J) (by omega) hl4 (lang_of S.y hlm) (fun i hi => (S.y.w.1 i hi).1) hw) dL_plans_131 ⟨rfl, by decide +kernel, by decide +kernel, (by decide +kernel : (parseMethodDescriptor yL_fits.desc).map (fun d => d.parameters.length) = some 4)⟩ ⟨⟨Nat.le_of_ble_eq_true rfl, Nat.le_of_ble_eq_true rfl⟩, rfl, rfl⟩ rfl (Nat.le_of_ble_eq_true rfl) ⟨Nat.zero_le _, Nat.zero_le _⟩ rfl (fun v1 I1 P1 q => ?_)
        obtain ⟨rfl, q1, q2⟩ := q
        rw [q1, q2]
        refine g_if_eq (tgt := 163) (pc' := 137) C dL_plans_134 (by decide) rfl (fun c3 => ?_) (fun c3 => ?_)
        ·
          have g2 : mFit J j w = false := b2_0.mp c3
          exact G_pick [0, 1, 2, 3, 4, 5, 6, 7, 8, 9, 10, 11, 12, 13, 14] rfl (no_ hN (fun q => by rw [q.2.1] at g2; cases g2))
        ·
          have g2 : mFit J j w = true := b2_1.mp c3
          refine g_iload (pc' := 139) C dL_plans_137 rfl rfl ?_
          refine g_iload (pc' := 141) C dL_plans_139 rfl rfl ?_
          refine g_iload (pc' := 143) C dL_plans_141 rfl rfl ?_
          refine g_iload (pc' := 145) C dL_plans_143 rfl rfl ?_
          refine g_iload (pc' := 147) C dL_plans_145 rfl rfl ?_
          refine g_iconst (v := (-1)) (pc' := 148) C dL_plans_147 (by decide) rfl ?_
          refine g_aload_n (pc' := 149) C dL_plans_148 rfl rfl ?_
          refine g_aload (pc' := 151) C dL_plans_149 rfl rfl ?_
          refine g_aload (pc' := 153) C dL_plans_151 rfl rfl ?_
          refine g_callS (pc' := 156) (As := [.int (nI j), .int (nI r), .int w, .int (nI (nw + f0)), .int (nI (1 + d0)), .int (-1), .ref ((Kg K).2.2 13 0), .ref ((Kg K).2.2 13 1), .ref ((Kg K).2.2 13 6)]) (S := []) C cs_L_73 (w_clash (J := J) (nw := nw) S.s.M S.y S.pos hlm hr (by omega) (by omega) (by omega) hw) dL_plans_153 ⟨rfl, by decide +kernel, by decide +kernel, (by decide +kernel : (parseMethodDescriptor yL_clash.desc).map (fun d => d.parameters.length) = some 9)⟩ ⟨⟨Nat.le_of_ble_eq_true rfl, Nat.le_of_ble_eq_true rfl⟩, rfl, rfl⟩ rfl (Nat.le_of_ble_eq_true rfl) ⟨Nat.zero_le _, Nat.zero_le _⟩ rfl (fun v1 I1 P1 q => ?_)
          obtain ⟨rfl, q1, q2⟩ := q
          rw [q1, q2]
          refine g_if_ne (tgt := 163) (pc' := 159) C dL_plans_156 (by decide) rfl (fun c4 => ?_) (fun c4 => ?_)
          ·
            have g3 : ¬ mRe J z.2 j (nI r) w (nI (nw + f0)) (nI (1 + d0)) (-1) = 0 := c4
            exact G_pick [0, 1, 2, 3, 4, 5, 6, 7, 8, 9, 10, 11, 12, 13, 14] rfl (no_ hN (fun q => g3 q.2.2))
          ·
            have g3 : mRe J z.2 j (nI r) w (nI (nw + f0)) (nI (1 + d0)) (-1) = 0 := c4
            exact G_pick [0, 1, 2, 3, 4, 5, 6, 7, 8, 9, 10, 11, 12, 13, 14] rfl (yes_ hN ⟨g1, g2, g3⟩)
    ·
      skip
      refine g_iconst (v := nI 1) (pc' := 112) C dL_plans_111 (by decide) rfl ?_
      exact x_zret C hR dL_plans_112 rfl (Nat.le_of_ble_eq_true rfl) (Nat.le_of_ble_eq_true rfl) ⟨rfl, by rw [nI1'], Gr.rf, J, S⟩
  have A86 : ∀ (j : Nat) (w : Int32), j < z.1 → (w = -1 ∨ ∃ s, s < 8 ∧ w = nI s) → G K z I P O 0 0 86 [(0, .ref ((Kg K).2.2 0 0)), (1, .int (nI 0)), (2, .int v), (3, .ref ((Kg K).2.2 13 0)), (4, .ref ((Kg K).2.2 13 1)), (5, .ref ((Kg K).2.2 13 2)), (6, .ref ((Kg K).2.2 13 3)), (7, .ref ((Kg K).2.2 13 4)), (8, .ref ((Kg K).2.2 13 5)), (9, .ref ((Kg K).2.2 13 6)), (10, .int (nI r)), (11, .int (nI (nw + f0))), (12, .int (nI (1 + d0))), (13, .int (nI j))] [.int w] := by
    intro j w hlm hw
    rcases hw with rfl | ⟨s, hs, rfl⟩
    ·
      refine g_istore (pc' := 88) C dL_plans_86 rfl rfl ?_
      refine g_iload (pc' := 90) C dL_plans_88 rfl rfl ?_
      refine g_iconst (v := nI 3) (pc' := 91) C dL_plans_90 (by decide) rfl ?_
      refine g_icmp_le (tgt := 98) (pc' := 94) C dL_plans_91 (by decide) rfl (fun c1 => ?_) (fun c1 => absurd (by decide) c1)
      refine g_iload (pc' := 100) C dL_plans_98 rfl rfl ?_
      exact G_pick [0, 1, 2, 3, 4, 5, 6, 7, 8, 9, 10, 11, 12, 13, 14] rfl (A100 j (-1) (-1) hlm (Or.inl rfl))
    ·
      refine g_istore (pc' := 88) C dL_plans_86 rfl rfl ?_
      refine g_iload (pc' := 90) C dL_plans_88 rfl rfl ?_
      refine g_iconst (v := nI 3) (pc' := 91) C dL_plans_90 (by decide) rfl ?_
      refine g_icmp_leN (tgt := 98) (pc' := 94) C (by omega) (by omega) dL_plans_91 (by decide) rfl (fun c1 => ?_) (fun c1 => ?_)
      ·
        refine g_iload (pc' := 100) C dL_plans_98 rfl rfl ?_
        exact G_pick [0, 1, 2, 3, 4, 5, 6, 7, 8, 9, 10, 11, 12, 13, 14] rfl (A100 j (nI s) (nI s) hlm (Or.inr ⟨s, by omega, rfl⟩))
      ·
        refine g_iconst (v := (-1)) (pc' := 95) C dL_plans_94 (by decide) rfl ?_
        refine g_goto (tgt := 100) C dL_plans_95 (by decide) ?_
        exact G_pick [0, 1, 2, 3, 4, 5, 6, 7, 8, 9, 10, 11, 12, 13, 14] rfl (A100 j (-1) (nI s) hlm (Or.inl rfl))
  refine g_iload_n (pc' := 34) C dL_plans_33 rfl rfl ?_
  refine g_if_ne (tgt := 314) (pc' := 37) C dL_plans_34 (by decide) rfl (fun c1 => absurd (by decide) c1) (fun c1 => ?_)
  refine g_iload_n (pc' := 38) C dL_plans_37 rfl rfl ?_
  refine g_bipush (v := nI 7) (pc' := 40) C dL_plans_38 (by decide) rfl ?_
  refine g_ishr (pc' := 41) C dL_plans_40 rfl ?_
  refine g_aload (pc' := 43) C dL_plans_41 rfl rfl ?_
  refine g_iconst (v := nI 0) (pc' := 44) C dL_plans_43 (by decide) rfl ?_
  refine g_iald (pc' := 45) C (0) rfl (by show 0 < 3; omega) dL_plans_44 (al13 rfl) rfl rfl rfl ?_
  rw [S.y.q0]
  refine g_callS (pc' := 48) (As := [.int (v >>> (nI 7 &&& 31)), .int (nI z.1)]) (S := []) C cs_L_65 (w_low (b := z.1) hz (by omega)) dL_plans_45 ⟨rfl, by decide +kernel, by decide +kernel, (by decide +kernel : (parseMethodDescriptor yL_low.desc).map (fun d => d.parameters.length) = some 2)⟩ ⟨⟨Nat.le_of_ble_eq_true rfl, Nat.le_of_ble_eq_true rfl⟩, rfl, rfl⟩ rfl (Nat.le_of_ble_eq_true rfl) ⟨Nat.zero_le _, Nat.zero_le _⟩ rfl (fun v1 I1 P1 q => ?_)
  obtain ⟨rfl, q1, q2⟩ := q
  rw [q1, q2]
  obtain ⟨j, hj, ej⟩ : ∃ r, r < z.1 ∧ lowN (v >>> (nI 7 &&& 31)) z.1 = r := ⟨_, lowN_lt hz, rfl⟩
  rw [ej]
  refine g_istore (pc' := 50) C dL_plans_48 rfl rfl ?_
  refine g_aload_n (pc' := 51) C dL_plans_50 rfl rfl ?_
  refine g_bipush (v := nI 8) (pc' := 53) C dL_plans_51 (by decide) rfl ?_
  refine g_iload (pc' := 55) C dL_plans_53 rfl rfl ?_
  refine g_imulN (pc' := 56) C dL_plans_55 rfl ?_
  refine g_iconst (v := nI 4) (pc' := 57) C dL_plans_56 (by decide) rfl ?_
  refine g_iaddN (pc' := 58) C dL_plans_57 rfl ?_
  have hj8 : j < 8 := by omega
  obtain ⟨-, -, -, -, hl4, -⟩ := S.y.m.2.1 j hj
  refine g_iald (pc' := 59) C (8 * j + 4) rfl (by show _ < 64; omega) dL_plans_58 (al13 rfl) rfl rfl rfl ?_
  rw [hl4]
  refine g_if_ne (tgt := 76) (pc' := 62) C dL_plans_59 (by decide) rfl (fun c2 => ?_) (fun c2 => ?_)
  ·
    refine g_iload_n (pc' := 77) C dL_plans_76 rfl rfl ?_
    refine g_bipush (v := nI 9) (pc' := 79) C dL_plans_77 (by decide) rfl ?_
    refine g_ishr (pc' := 80) C dL_plans_79 rfl ?_
    refine g_iconst (v := nI 5) (pc' := 81) C dL_plans_80 (by decide) rfl ?_
    refine g_callS (pc' := 84) (As := [.int (v >>> (nI 9 &&& 31)), .int (nI 5)]) (S := []) C cs_L_65 (w_low (b := 5) (by omega) (by omega)) dL_plans_81 ⟨rfl, by decide +kernel, by decide +kernel, (by decide +kernel : (parseMethodDescriptor yL_low.desc).map (fun d => d.parameters.length) = some 2)⟩ ⟨⟨Nat.le_of_ble_eq_true rfl, Nat.le_of_ble_eq_true rfl⟩, rfl, rfl⟩ rfl (Nat.le_of_ble_eq_true rfl) ⟨Nat.zero_le _, Nat.zero_le _⟩ rfl (fun v1 I1 P1 q => ?_)
    obtain ⟨rfl, q1, q2⟩ := q
    rw [q1, q2]
    obtain ⟨w0, hw0, ew0⟩ : ∃ r, r < 5 ∧ lowN (v >>> (nI 9 &&& 31)) 5 = r := ⟨_, lowN_lt (by omega), rfl⟩
    rw [ew0]
    refine g_iconst (v := nI 1) (pc' := 85) C dL_plans_84 (by decide) rfl ?_
    refine g_isub (pc' := 86) C dL_plans_85 rfl ?_
    exact G_pick [0, 1, 2, 3, 4, 5, 6, 7, 8, 9, 10, 11, 12, 13] rfl (A86 j _ hj ((who_5 hw0).imp id (fun ⟨s, hs, e⟩ => ⟨s, by omega, e⟩)))
  ·
    refine g_iload_n (pc' := 63) C dL_plans_62 rfl rfl ?_
    refine g_bipush (v := nI 9) (pc' := 65) C dL_plans_63 (by decide) rfl ?_
    refine g_ishr (pc' := 66) C dL_plans_65 rfl ?_
    refine g_bipush (v := nI 9) (pc' := 68) C dL_plans_66 (by decide) rfl ?_
    refine g_callS (pc' := 71) (As := [.int (v >>> (nI 9 &&& 31)), .int (nI 9)]) (S := []) C cs_L_65 (w_low (b := 9) (by omega) (by omega)) dL_plans_68 ⟨rfl, by decide +kernel, by decide +kernel, (by decide +kernel : (parseMethodDescriptor yL_low.desc).map (fun d => d.parameters.length) = some 2)⟩ ⟨⟨Nat.le_of_ble_eq_true rfl, Nat.le_of_ble_eq_true rfl⟩, rfl, rfl⟩ rfl (Nat.le_of_ble_eq_true rfl) ⟨Nat.zero_le _, Nat.zero_le _⟩ rfl (fun v1 I1 P1 q => ?_)
    obtain ⟨rfl, q1, q2⟩ := q
    rw [q1, q2]
    obtain ⟨w0, hw0, ew0⟩ : ∃ r, r < 9 ∧ lowN (v >>> (nI 9 &&& 31)) 9 = r := ⟨_, lowN_lt (by omega), rfl⟩
    rw [ew0]
    refine g_iconst (v := nI 1) (pc' := 72) C dL_plans_71 (by decide) rfl ?_
    refine g_isub (pc' := 73) C dL_plans_72 rfl ?_
    refine g_goto (tgt := 86) C dL_plans_73 (by decide) ?_
    exact G_pick [0, 1, 2, 3, 4, 5, 6, 7, 8, 9, 10, 11, 12, 13] rfl (A86 j _ hj (who_9 hw0))
set_option maxRecDepth 20000 in
theorem l_hear {K : wK} {z : wZ} {I : wI} {P : wP} {O : wO} {nw : Nat} {J : wI} {sz : Nat} (hfl : (Kl K).stackTraces = false) (C : Cx K cL_plans RL 20 (some .boolean) { frames := 8, cells := 2, slots := 14, locals := 150 } z) (hR : Rq K (Kg K) z sz I P O 2 14 (oP (Kg K) z sz nw O) (fun _ => False)) (S : Stt z nw I P J) (hz : 0 < z.1) (hn9 : nw ≤ 900) {a r f0 d0 : Nat} {v : Int32} (ha : ¬ nI a = 0) (kk : ∀ (h op : Nat), h < z.2 → ((op = 1 ∧ J 13 14 h = 0 ∧ nw < mfr J h) ∨ (op = 0 ∧ ¬ (J 13 14 h = 0 ∧ nw < mfr J h))) → G K z I P O 0 0 403 [(0, .ref ((Kg K).2.2 0 0)), (1, .int (nI a)), (2, .int v), (3, .ref ((Kg K).2.2 13 0)), (4, .ref ((Kg K).2.2 13 1)), (5, .ref ((Kg K).2.2 13 2)), (6, .ref ((Kg K).2.2 13 3)), (7, .ref ((Kg K).2.2 13 4)), (8, .ref ((Kg K).2.2 13 5)), (9, .ref ((Kg K).2.2 13 6)), (10, .int (nI r)), (11, .int (nI (nw + f0))), (12, .int (nI (1 + d0))), (13, .int (nI h)), (14, .int (nI (mm J h))), (15, .int (nI op))] []) : G K z I P O 0 0 33 [(0, .ref ((Kg K).2.2 0 0)), (1, .int (nI a)), (2, .int v), (3, .ref ((Kg K).2.2 13 0)), (4, .ref ((Kg K).2.2 13 1)), (5, .ref ((Kg K).2.2 13 2)), (6, .ref ((Kg K).2.2 13 3)), (7, .ref ((Kg K).2.2 13 4)), (8, .ref ((Kg K).2.2 13 5)), (9, .ref ((Kg K).2.2 13 6)), (10, .int (nI r)), (11, .int (nI (nw + f0))), (12, .int (nI (1 + d0)))] [] := by
  have hN16 := S.y.N16
  have X := S.s.M
  have A354 : ∀ h : Nat, h < z.2 → G K z I P O 0 0 354 [(0, .ref ((Kg K).2.2 0 0)), (1, .int (nI a)), (2, .int v), (3, .ref ((Kg K).2.2 13 0)), (4, .ref ((Kg K).2.2 13 1)), (5, .ref ((Kg K).2.2 13 2)), (6, .ref ((Kg K).2.2 13 3)), (7, .ref ((Kg K).2.2 13 4)), (8, .ref ((Kg K).2.2 13 5)), (9, .ref ((Kg K).2.2 13 6)), (10, .int (nI r)), (11, .int (nI (nw + f0))), (12, .int (nI (1 + d0)))] [.int (nI h)] := by
    intro h hh
    have hm12 : mm J h < 12 := X.mt2 hh
    have hr4 := S.y.rm4 hh
    have hs4 := S.y.sp4 hh
    have hlt := eA_lt hm12 hr4 hs4
    obtain ⟨e18, f9⟩ := X.fr hh
    refine g_istore (pc' := 356) C dL_plans_354 rfl rfl ?_
    refine g_aload (pc' := 358) C dL_plans_356 rfl rfl ?_
    refine g_iconst (v := nI 4) (pc' := 359) C dL_plans_358 (by decide) rfl ?_
    refine g_iload (pc' := 361) C dL_plans_359 rfl rfl ?_
    refine g_imulN (pc' := 362) C dL_plans_361 rfl ?_
    refine g_iconst (v := nI 1) (pc' := 363) C dL_plans_362 (by decide) rfl ?_
    refine g_iaddN (pc' := 364) C dL_plans_363 rfl ?_
    refine g_iald (pc' := 365) C (4 * h + 1) rfl (by show _ < 64; omega) dL_plans_364 (al13 rfl) rfl rfl rfl ?_
    rw [(S.y.rA hh)]
    refine g_bipush (v := nI 16) (pc' := 367) C dL_plans_365 (by decide) rfl ?_
    refine g_iremN (r := mm J h) (pc' := 368) C (by omega) (by omega) (eA_m hm12 hr4) dL_plans_367 rfl ?_
    refine g_istore (pc' := 370) C dL_plans_368 rfl rfl ?_
    refine g_aload (pc' := 372) C dL_plans_370 rfl rfl ?_
    refine g_iconst (v := nI 4) (pc' := 373) C dL_plans_372 (by decide) rfl ?_
    refine g_iload (pc' := 375) C dL_plans_373 rfl rfl ?_
    refine g_imulN (pc' := 376) C dL_plans_375 rfl ?_
    refine g_iald (pc' := 377) C (4 * h) rfl (by show _ < 64; omega) dL_plans_376 (al13 rfl) rfl rfl rfl ?_
    rw [(S.y.rS hh)]
    refine g_if_ne (tgt := 400) (pc' := 380) C dL_plans_377 (by decide) rfl (fun c1 => ?_) (fun c1 => ?_)
    ·
      refine g_iconst (v := nI 0) (pc' := 401) C dL_plans_400 (by decide) rfl ?_
      refine g_istore (pc' := 403) C dL_plans_401 rfl rfl ?_
      exact G_pick [0, 1, 2, 3, 4, 5, 6, 7, 8, 9, 10, 11, 12, 13, 14, 15] rfl (kk h 0 hh (Or.inr ⟨rfl, fun q => c1 q.1⟩))
    ·
      refine g_aload (pc' := 382) C dL_plans_380 rfl rfl ?_
      refine g_iconst (v := nI 4) (pc' := 383) C dL_plans_382 (by decide) rfl ?_
      refine g_iload (pc' := 385) C dL_plans_383 rfl rfl ?_
      refine g_imulN (pc' := 386) C dL_plans_385 rfl ?_
      refine g_iconst (v := nI 2) (pc' := 387) C dL_plans_386 (by decide) rfl ?_
      refine g_iaddN (pc' := 388) C dL_plans_387 rfl ?_
      refine g_iald (pc' := 389) C (4 * h + 2) rfl (by show _ < 64; omega) dL_plans_388 (al13 rfl) rfl rfl rfl ?_
      rw [(S.y.rF X hh)]
      refine g_aload (pc' := 391) C dL_plans_389 rfl rfl ?_
      refine g_iconst (v := nI 2) (pc' := 392) C dL_plans_391 (by decide) rfl ?_
      refine g_iald (pc' := 393) C (2) rfl (by show 2 < 3; omega) dL_plans_392 (al13 rfl) rfl rfl rfl ?_
      rw [S.y.q2]
      refine g_icmp_leN (tgt := 400) (pc' := 396) C (by omega) (by omega) dL_plans_393 (by decide) rfl (fun c2 => ?_) (fun c2 => ?_)
      ·
        refine g_iconst (v := nI 0) (pc' := 401) C dL_plans_400 (by decide) rfl ?_
        refine g_istore (pc' := 403) C dL_plans_401 rfl rfl ?_
        exact G_pick [0, 1, 2, 3, 4, 5, 6, 7, 8, 9, 10, 11, 12, 13, 14, 15] rfl (kk h 0 hh (Or.inr ⟨rfl, fun q => absurd q.2 (by omega)⟩))
      ·
        refine g_iconst (v := nI 1) (pc' := 397) C dL_plans_396 (by decide) rfl ?_
        refine g_goto (tgt := 401) C dL_plans_397 (by decide) ?_
        refine g_istore (pc' := 403) C dL_plans_401 rfl rfl ?_
        exact G_pick [0, 1, 2, 3, 4, 5, 6, 7, 8, 9, 10, 11, 12, 13, 14, 15] rfl (kk h 1 hh (Or.inl ⟨rfl, c1, c2⟩))
  refine g_iload_n (pc' := 34) C dL_plans_33 rfl rfl ?_
  refine g_if_ne (tgt := 314) (pc' := 37) C dL_plans_34 (by decide) rfl (fun c1 => ?_) (fun c1 => absurd c1 ha)
  refine g_aload (pc' := 316) C dL_plans_314 rfl rfl ?_
  refine g_iconst (v := nI 1) (pc' := 317) C dL_plans_316 (by decide) rfl ?_
  refine g_iald (pc' := 318) C (1) rfl (by show 1 < 3; omega) dL_plans_317 (al13 rfl) rfl rfl rfl ?_
  rw [S.y.q1]
  refine g_if_ne (tgt := 323) (pc' := 321) C dL_plans_318 (by decide) rfl (fun c2 => ?_) (fun c2 => ?_)
  ·
    have hN0 : 0 < z.2 := Nat.pos_of_ne_zero (fun e => c2 (by rw [e]; decide))
    refine g_iload_n (pc' := 324) C dL_plans_323 rfl rfl ?_
    refine g_bipush (v := nI 8) (pc' := 326) C dL_plans_324 (by decide) rfl ?_
    refine g_ishr (pc' := 327) C dL_plans_326 rfl ?_
    refine g_iconst (v := nI 2) (pc' := 328) C dL_plans_327 (by decide) rfl ?_
    refine g_callS (pc' := 331) (As := [.int (v >>> (nI 8 &&& 31)), .int (nI 2)]) (S := []) C cs_L_65 (w_low (b := 2) (by omega) (by omega)) dL_plans_328 ⟨rfl, by decide +kernel, by decide +kernel, (by decide +kernel : (parseMethodDescriptor yL_low.desc).map (fun d => d.parameters.length) = some 2)⟩ ⟨⟨Nat.le_of_ble_eq_true rfl, Nat.le_of_ble_eq_true rfl⟩, rfl, rfl⟩ rfl (Nat.le_of_ble_eq_true rfl) ⟨Nat.zero_le _, Nat.zero_le _⟩ rfl (fun v1 I1 P1 q => ?_)
    obtain ⟨rfl, q1, q2⟩ := q
    rw [q1, q2]
    obtain ⟨b0, hb0, eb0⟩ : ∃ r, r < 2 ∧ lowN (v >>> (nI 8 &&& 31)) 2 = r := ⟨_, lowN_lt (by omega), rfl⟩
    rw [eb0]
    refine g_if_ne (tgt := 343) (pc' := 334) C dL_plans_331 (by decide) rfl (fun c3 => ?_) (fun c3 => ?_)
    ·
      skip
      refine g_iload_n (pc' := 344) C dL_plans_343 rfl rfl ?_
      refine g_bipush (v := nI 9) (pc' := 346) C dL_plans_344 (by decide) rfl ?_
      refine g_ishr (pc' := 347) C dL_plans_346 rfl ?_
      refine g_aload (pc' := 349) C dL_plans_347 rfl rfl ?_
      refine g_iconst (v := nI 1) (pc' := 350) C dL_plans_349 (by decide) rfl ?_
      refine g_iald (pc' := 351) C (1) rfl (by show 1 < 3; omega) dL_plans_350 (al13 rfl) rfl rfl rfl ?_
      rw [S.y.q1]
      refine g_callS (pc' := 354) (As := [.int (v >>> (nI 9 &&& 31)), .int (nI z.2)]) (S := []) C cs_L_65 (w_low (b := z.2) hN0 (by omega)) dL_plans_351 ⟨rfl, by decide +kernel, by decide +kernel, (by decide +kernel : (parseMethodDescriptor yL_low.desc).map (fun d => d.parameters.length) = some 2)⟩ ⟨⟨Nat.le_of_ble_eq_true rfl, Nat.le_of_ble_eq_true rfl⟩, rfl, rfl⟩ rfl (Nat.le_of_ble_eq_true rfl) ⟨Nat.zero_le _, Nat.zero_le _⟩ rfl (fun v1 I1 P1 q => ?_)
      obtain ⟨rfl, q1, q2⟩ := q
      rw [q1, q2]
      obtain ⟨h, hh, eh⟩ : ∃ r, r < z.2 ∧ lowN (v >>> (nI 9 &&& 31)) z.2 = r := ⟨_, lowN_lt hN0, rfl⟩
      rw [eh]
      exact G_pick [0, 1, 2, 3, 4, 5, 6, 7, 8, 9, 10, 11, 12] rfl (A354 _ (by omega))
    ·
      skip
      refine g_aload (pc' := 336) C dL_plans_334 rfl rfl ?_
      refine g_iconst (v := nI 1) (pc' := 337) C dL_plans_336 (by decide) rfl ?_
      refine g_iald (pc' := 338) C (1) rfl (by show 1 < 3; omega) dL_plans_337 (al13 rfl) rfl rfl rfl ?_
      rw [S.y.q1]
      refine g_iconst (v := nI 1) (pc' := 339) C dL_plans_338 (by decide) rfl ?_
      refine g_isubN (r := z.2 - 1) (pc' := 340) C (by omega) dL_plans_339 rfl ?_
      refine g_goto (tgt := 354) C dL_plans_340 (by decide) ?_
      exact G_pick [0, 1, 2, 3, 4, 5, 6, 7, 8, 9, 10, 11, 12] rfl (A354 _ (by omega))
  ·
    skip
    refine g_iconst (v := nI 1) (pc' := 322) C dL_plans_321 (by decide) rfl ?_
    exact x_zret C hR dL_plans_322 rfl (Nat.le_of_ble_eq_true rfl) (Nat.le_of_ble_eq_true rfl) ⟨rfl, by rw [nI1'], Gr.rf, J, S⟩
set_option maxRecDepth 20000 in
theorem l_move {K : wK} {z : wZ} {I : wI} {P : wP} {O : wO} {nw : Nat} {J : wI} {sz : Nat} (hfl : (Kl K).stackTraces = false) (C : Cx K cL_plans RL 20 (some .boolean) { frames := 8, cells := 2, slots := 14, locals := 150 } z) (hR : Rq K (Kg K) z sz I P O 2 14 (oP (Kg K) z sz nw O) (fun _ => False)) (S : Stt z nw I P J) (hz : 0 < z.1) (hn9 : nw ≤ 900) {v : Int32} : G K z I P O 0 0 0 [(0, .ref ((Kg K).2.2 0 0)), (1, .int (nI 1)), (2, .int v), (3, .ref ((Kg K).2.2 13 0)), (4, .ref ((Kg K).2.2 13 1)), (5, .ref ((Kg K).2.2 13 2)), (6, .ref ((Kg K).2.2 13 3)), (7, .ref ((Kg K).2.2 13 4)), (8, .ref ((Kg K).2.2 13 5)), (9, .ref ((Kg K).2.2 13 6))] [] := by
  refine l_pl0 hfl C hR S hz hn9 (fun r f0 d0 hr hf0 hd0 => ?_)
  refine l_hear hfl C hR S hz hn9 (by decide) (fun h op hh hop => ?_)
  have hN16 := S.y.N16
  have hM8 := S.y.M8
  have X := S.s.M
  have hm12 : mm J h < 12 := X.mt2 hh
  have hlm : mm J h < z.1 := X.mtM hh
  have hm8 : mm J h < 8 := Nat.lt_of_lt_of_le hlm hM8
  have hr4 := S.y.rm4 hh
  have hs4 := S.y.sp4 hh
  have hlt := eA_lt hm12 hr4 hs4
  have hH4 := X.hr4 hh
  have hnt3 := S.y.nt3 hh
  have hHlt := eH_lt hH4 hnt3
  obtain ⟨e18, f9⟩ := X.fr hh
  have e19 := X.hr hh
  have hp0 := S.pos h hh
  have hnh : (nI h).toNatClampNeg = h := nI_clamp (by omega)
  obtain ⟨-, -, -, -, hl4, a5, -⟩ := S.y.m.2.1 (mm J h) hlm
  have A439 : ∀ w : Int32, dom4 w → G K z I P O 0 0 439 [(0, .ref ((Kg K).2.2 0 0)), (1, .int (nI 1)), (2, .int v), (3, .ref ((Kg K).2.2 13 0)), (4, .ref ((Kg K).2.2 13 1)), (5, .ref ((Kg K).2.2 13 2)), (6, .ref ((Kg K).2.2 13 3)), (7, .ref ((Kg K).2.2 13 4)), (8, .ref ((Kg K).2.2 13 5)), (9, .ref ((Kg K).2.2 13 6)), (10, .int (nI r)), (11, .int (nI (nw + f0))), (12, .int (nI (1 + d0))), (13, .int (nI h)), (14, .int (nI (mm J h))), (15, .int (nI op))] [.int w] := by
    intro w hw
    have hK := K9_v S.y X hh hr hw (f := nw + f0) (by omega)
    have hcK : ∀ I2, Oth I I2 → cK9 I2 P z.2 (nI h) (nI r) w (nI (nw + f0)) = mK9 J z.2 (nI h) (nI r) w (nI (nw + f0)) := fun I2 hO => cK9_eq (S.s.oth hO)
    obtain ⟨sp, hsp4, hsp1, hsp2⟩ := sp_of hw
    have err : ∀ can : Nat, (can = 1 ∧ (J 13 14 h = 0 ∧ nw < mfr J h ∧ mFit J (mm J h) w = true ∧ mRe J z.2 (mm J h) (nI r) w (nI (nw + f0)) (J 13 19 h) (nI h) = 0)) ∨ (can = 0 ∧ ¬ (J 13 14 h = 0 ∧ nw < mfr J h ∧ mFit J (mm J h) w = true ∧ mRe J z.2 (mm J h) (nI r) w (nI (nw + f0)) (J 13 19 h) (nI h) = 0)) → (can = 0 ∨ f0 = 0) → G K z I P O 0 0 604 [(0, .ref ((Kg K).2.2 0 0)), (1, .int (nI 1)), (2, .int v), (3, .ref ((Kg K).2.2 13 0)), (4, .ref ((Kg K).2.2 13 1)), (5, .ref ((Kg K).2.2 13 2)), (6, .ref ((Kg K).2.2 13 3)), (7, .ref ((Kg K).2.2 13 4)), (8, .ref ((Kg K).2.2 13 5)), (9, .ref ((Kg K).2.2 13 6)), (10, .int (nI r)), (11, .int (nI (nw + f0))), (12, .int (nI (1 + d0))), (13, .int (nI h)), (14, .int (nI (mm J h))), (15, .int (nI op)), (16, .int w), (17, .int (nI can))] [] := by
      intro can hc hc2
      have hv : (mK9 J z.2 (nI h) (nI r) w (nI (nw + f0)) = 2 ∧ f0 = 0) ∨ (mK9 J z.2 (nI h) (nI r) w (nI (nw + f0)) = 3 ∧ ¬ f0 = 0 ∧ can = 0) := by
        rw [hK]
        by_cases e : nw + f0 ≤ nw
        · rw [if_pos e]; exact Or.inl ⟨rfl, by omega⟩
        · rw [if_neg e, if_neg]
          · exact Or.inr ⟨rfl, by omega, by omega⟩
          · intro q
            rcases hc with hc | hc
            · omega
            · exact hc.2 q
      have hk0 : ¬ mK9 J z.2 (nI h) (nI r) w (nI (nw + f0)) = 0 := by
        rcases hv with ⟨e, -⟩ | ⟨e, -⟩ <;> rw [e] <;> decide
      refine g_aload_n (pc' := 605) C dL_plans_604 rfl rfl ?_
      refine g_iconst (v := nI 1) (pc' := 606) C dL_plans_605 (by decide) rfl ?_
      refine g_iload (pc' := 608) C dL_plans_606 rfl rfl ?_
      refine g_iload (pc' := 610) C dL_plans_608 rfl rfl ?_
      refine g_iload (pc' := 612) C dL_plans_610 rfl rfl ?_
      refine g_iload (pc' := 614) C dL_plans_612 rfl rfl ?_
      refine g_iconst (v := nI 0) (pc' := 615) C dL_plans_614 (by decide) rfl ?_
      refine x_callS (pc' := 618) (mc := 1) (ms := 6) (As := [.ref ((Kg K).2.2 0 0), .int (nI 1), .int (nI h), .int (nI r), .int w, .int (nI (nw + f0)), .int (nI 0)]) (S := []) C hR.k cw_L_calls (fun sz => w_c_move hfl S.s.X (by rw [hcK I Oth.rf, hK]; split; decide; split <;> decide) sz) dL_plans_615 ⟨by decide +kernel, by decide +kernel, (by decide +kernel : (parseMethodDescriptor yL_calls.desc).map (fun d => d.parameters.length) = some 7)⟩ ⟨⟨Nat.le_of_ble_eq_true rfl, Nat.le_of_ble_eq_true rfl⟩, rfl, rfl⟩ rfl (Nat.le_of_ble_eq_true rfl) ⟨Nat.le_of_ble_eq_true rfl, Nat.le_of_ble_eq_true rfl⟩ rfl (fun sz' v' g' z' I' P' O' hA' hp => ?_)
      obtain ⟨qO, hp⟩ := hp
      rcases hp with ⟨hk, -⟩ | ⟨hk, q0, q1, q2, q3, q4⟩
      · exact absurd hk (by rw [hcK I Oth.rf]; exact hk0)
      rw [q0, q1, q2, q3, q4, qO, Kw_self, hcK I Oth.rf]
      refine g_iload (pc' := 620) C dL_plans_618 rfl rfl ?_
      refine g_aload (pc' := 622) C dL_plans_620 rfl rfl ?_
      refine g_iconst (v := nI 2) (pc' := 623) C dL_plans_622 (by decide) rfl ?_
      refine g_iald (pc' := 624) C (2) rfl (by show 2 < 3; omega) dL_plans_623 (al13 rfl) rfl rfl rfl ?_
      rw [S.y.q2]
      refine g_icmp_gtN (tgt := 632) (pc' := 627) C (by omega) (by omega) dL_plans_624 (by decide) rfl (fun c1 => ?_) (fun c1 => ?_)
      ·
        refine g_iload (pc' := 634) C dL_plans_632 rfl rfl ?_
        refine g_if_eq (tgt := 649) (pc' := 637) C dL_plans_634 (by decide) rfl (fun c2 => ?_) (fun c2 => absurd (by rcases hc2 with e | e; rw [e]; decide; omega) c2)
        refine g_ldc (v := (-100003)) (pc' := 651) C kL_46 dL_plans_649 rfl ?_
        refine g_icmp_ne (tgt := 658) (pc' := 654) C dL_plans_651 (by decide) rfl (fun c3 => absurd (by rcases hv with ⟨e, e2⟩ | ⟨e, e2⟩ <;> first | omega | (rw [e]; rfl)) c3) (fun c3 => ?_)
        refine g_iconst (v := nI 1) (pc' := 655) C dL_plans_654 (by decide) rfl ?_
        refine g_goto (tgt := 659) C dL_plans_655 (by decide) ?_
        exact x_zret C hR dL_plans_659 rfl (Nat.le_of_ble_eq_true rfl) (Nat.le_of_ble_eq_true rfl) ⟨rfl, by rw [nI1'], Gr.rf, J, S⟩
      ·
        refine g_ldc (v := (-100002)) (pc' := 629) C kL_43 dL_plans_627 rfl ?_
        refine g_goto (tgt := 651) C dL_plans_629 (by decide) ?_
        refine g_icmp_ne (tgt := 658) (pc' := 654) C dL_plans_651 (by decide) rfl (fun c4 => absurd (by rcases hv with ⟨e, e2⟩ | ⟨e, e2⟩ <;> first | omega | (rw [e]; rfl)) c4) (fun c4 => ?_)
        refine g_iconst (v := nI 1) (pc' := 655) C dL_plans_654 (by decide) rfl ?_
        refine g_goto (tgt := 659) C dL_plans_655 (by decide) ?_
        exact x_zret C hR dL_plans_659 rfl (Nat.le_of_ble_eq_true rfl) (Nat.le_of_ble_eq_true rfl) ⟨rfl, by rw [nI1'], Gr.rf, J, S⟩
    have no_ : ¬ (J 13 14 h = 0 ∧ nw < mfr J h ∧ mFit J (mm J h) w = true ∧ mRe J z.2 (mm J h) (nI r) w (nI (nw + f0)) (J 13 19 h) (nI h) = 0) → G K z I P O 0 0 496 [(0, .ref ((Kg K).2.2 0 0)), (1, .int (nI 1)), (2, .int v), (3, .ref ((Kg K).2.2 13 0)), (4, .ref ((Kg K).2.2 13 1)), (5, .ref ((Kg K).2.2 13 2)), (6, .ref ((Kg K).2.2 13 3)), (7, .ref ((Kg K).2.2 13 4)), (8, .ref ((Kg K).2.2 13 5)), (9, .ref ((Kg K).2.2 13 6)), (10, .int (nI r)), (11, .int (nI (nw + f0))), (12, .int (nI (1 + d0))), (13, .int (nI h)), (14, .int (nI (mm J h))), (15, .int (nI op)), (16, .int w)] [] := by
      intro hno
      refine g_iconst (v := nI 0) (pc' := 497) C dL_plans_496 (by decide) rfl ?_
      refine g_istore (pc' := 499) C dL_plans_497 rfl rfl ?_
      refine g_iload (pc' := 501) C dL_plans_499 rfl rfl ?_
      refine g_if_eq (tgt := 604) (pc' := 504) C dL_plans_501 (by decide) rfl (fun c1 => ?_) (fun c1 => absurd (by decide) c1)
      exact G_pick [0, 1, 2, 3, 4, 5, 6, 7, 8, 9, 10, 11, 12, 13, 14, 15, 16, 17] rfl (err 0 (Or.inr ⟨rfl, hno⟩) (Or.inl rfl))
    have yes_ : (J 13 14 h = 0 ∧ nw < mfr J h ∧ mFit J (mm J h) w = true ∧ mRe J z.2 (mm J h) (nI r) w (nI (nw + f0)) (J 13 19 h) (nI h) = 0) → G K z I P O 0 0 492 [(0, .ref ((Kg K).2.2 0 0)), (1, .int (nI 1)), (2, .int v), (3, .ref ((Kg K).2.2 13 0)), (4, .ref ((Kg K).2.2 13 1)), (5, .ref ((Kg K).2.2 13 2)), (6, .ref ((Kg K).2.2 13 3)), (7, .ref ((Kg K).2.2 13 4)), (8, .ref ((Kg K).2.2 13 5)), (9, .ref ((Kg K).2.2 13 6)), (10, .int (nI r)), (11, .int (nI (nw + f0))), (12, .int (nI (1 + d0))), (13, .int (nI h)), (14, .int (nI (mm J h))), (15, .int (nI op)), (16, .int w)] [] := by
      intro hyes
      refine g_iconst (v := nI 1) (pc' := 493) C dL_plans_492 (by decide) rfl ?_
      refine g_goto (tgt := 497) C dL_plans_493 (by decide) ?_
      refine g_istore (pc' := 499) C dL_plans_497 rfl rfl ?_
      refine g_iload (pc' := 501) C dL_plans_499 rfl rfl ?_
      refine g_if_eq (tgt := 604) (pc' := 504) C dL_plans_501 (by decide) rfl (fun c1 => absurd c1 (by decide)) (fun c1 => ?_)
      refine g_iload (pc' := 506) C dL_plans_504 rfl rfl ?_
      refine g_aload (pc' := 508) C dL_plans_506 rfl rfl ?_
      refine g_iconst (v := nI 2) (pc' := 509) C dL_plans_508 (by decide) rfl ?_
      refine g_iald (pc' := 510) C (2) rfl (by show 2 < 3; omega) dL_plans_509 (al13 rfl) rfl rfl rfl ?_
      rw [S.y.q2]
      refine g_icmp_leN (tgt := 604) (pc' := 513) C (by omega) (by omega) dL_plans_510 (by decide) rfl (fun c2 => ?_) (fun c2 => ?_)
      ·
        have hf0z : f0 = 0 := by omega
        exact G_pick [0, 1, 2, 3, 4, 5, 6, 7, 8, 9, 10, 11, 12, 13, 14, 15, 16, 17] rfl (err 1 (Or.inl ⟨rfl, hyes⟩) (Or.inr hf0z))
      ·
        have hlt2 : nw < nw + f0 := c2
        refine g_iload (pc' := 515) C dL_plans_513 rfl rfl ?_
        refine g_aload_n (pc' := 516) C dL_plans_515 rfl rfl ?_
        refine g_aload (pc' := 518) C dL_plans_516 rfl rfl ?_
        refine g_aload (pc' := 520) C dL_plans_518 rfl rfl ?_
        refine g_aload (pc' := 522) C dL_plans_520 rfl rfl ?_
        refine g_aload (pc' := 524) C dL_plans_522 rfl rfl ?_
        refine g_aload (pc' := 526) C dL_plans_524 rfl rfl ?_
        have hp14 : th J 0 13 14 h = 0 := by rw [th_13]; exact hyes.1
        refine g_callS (pc' := 529) (As := [.int (nI h), .ref ((Kg K).2.2 13 0), .ref ((Kg K).2.2 13 1), .ref ((Kg K).2.2 13 2), .ref ((Kg K).2.2 13 3), .ref ((Kg K).2.2 13 4), .ref ((Kg K).2.2 13 6)]) (S := []) C cs_L_85 (w_leaves (nw := nw) (J := th J 0) (ex := fun j => j = h) S.th0.s.M (S.th0.y.wk (fun _ _ q => q.elim)) rfl hh (S.th0.ap hh hp14) (S.th0.y.fre hh (fun q => q) hp14)) dL_plans_526 ⟨rfl, by decide +kernel, by decide +kernel, (by decide +kernel : (parseMethodDescriptor yL_leaves.desc).map (fun d => d.parameters.length) = some 7)⟩ ⟨⟨Nat.le_of_ble_eq_true rfl, Nat.le_of_ble_eq_true rfl⟩, rfl, rfl⟩ rfl (Nat.le_of_ble_eq_true rfl) ⟨Nat.zero_le _, Nat.zero_le _⟩ rfl (fun v1 I1 P1 q => ?_)
        obtain ⟨rfl, q2, hO1, S1⟩ := q
        rw [q2]
        have X1 : MI z.1 z.2 (mLv h (th J 0)) := S.th0.s.M.lv' hh
        have em1 : mm (mLv h (th J 0)) h = mm J h := by unfold mm; rw [mLv_off (by decide) (by decide) (by decide), th_13]
        have eh1 : mh (mLv h (th J 0)) h = mh J h := by unfold mh; rw [mLv_off (by decide) (by decide) (by decide), th_13]
        have eH1 : I1 13 1 (4 * h + 3) = nI (eH J h) := (S1.rH hh).trans (by unfold eH; rw [eh1]; unfold ntN; rw [mLv_off (by decide) (by decide) (by decide), th_13])
        clear q2
        refine g_aload (pc' := 531) C dL_plans_529 rfl rfl ?_
        refine g_iconst (v := nI 4) (pc' := 532) C dL_plans_531 (by decide) rfl ?_
        refine g_iload (pc' := 534) C dL_plans_532 rfl rfl ?_
        refine g_imulN (pc' := 535) C dL_plans_534 rfl ?_
        refine g_iconst (v := nI 1) (pc' := 536) C dL_plans_535 (by decide) rfl ?_
        refine g_iaddN (pc' := 537) C dL_plans_536 rfl ?_
        refine g_iload (pc' := 539) C dL_plans_537 rfl rfl ?_
        refine g_bipush (v := nI 16) (pc' := 541) C dL_plans_539 (by decide) rfl ?_
        refine g_iload (pc' := 543) C dL_plans_541 rfl rfl ?_
        refine g_imulN (pc' := 544) C dL_plans_543 rfl ?_
        refine g_iaddN (pc' := 545) C dL_plans_544 rfl ?_
        refine g_bipush (v := nI 64) (pc' := 547) C dL_plans_545 (by decide) rfl ?_
        refine g_iload (pc' := 549) C dL_plans_547 rfl rfl ?_
        refine g_iconst (v := nI 1) (pc' := 550) C dL_plans_549 (by decide) rfl ?_
        refine g_iadd (pc' := 551) C dL_plans_550 rfl ?_
        rw [hsp2]
        refine g_imulN (pc' := 552) C dL_plans_551 rfl ?_
        refine g_iaddN (pc' := 553) C dL_plans_552 rfl ?_
        refine g_iast (pc' := 554) C (4 * h + 1) rfl (by show _ < 64; omega) dL_plans_553 (al13 rfl) (fun _ => rfl) rfl rfl ?_
        refine g_aload (pc' := 556) C dL_plans_554 rfl rfl ?_
        refine g_iconst (v := nI 4) (pc' := 557) C dL_plans_556 (by decide) rfl ?_
        refine g_iload (pc' := 559) C dL_plans_557 rfl rfl ?_
        refine g_imulN (pc' := 560) C dL_plans_559 rfl ?_
        refine g_iconst (v := nI 2) (pc' := 561) C dL_plans_560 (by decide) rfl ?_
        refine g_iaddN (pc' := 562) C dL_plans_561 rfl ?_
        refine g_iload (pc' := 564) C dL_plans_562 rfl rfl ?_
        refine g_iast (pc' := 565) C (4 * h + 2) rfl (by show _ < 64; omega) dL_plans_564 (al13 rfl) (fun _ => rfl) rfl rfl ?_
        refine g_aload (pc' := 567) C dL_plans_565 rfl rfl ?_
        refine g_iconst (v := nI 4) (pc' := 568) C dL_plans_567 (by decide) rfl ?_
        refine g_iload (pc' := 570) C dL_plans_568 rfl rfl ?_
        refine g_imulN (pc' := 571) C dL_plans_570 rfl ?_
        refine g_iconst (v := nI 3) (pc' := 572) C dL_plans_571 (by decide) rfl ?_
        refine g_iaddN (pc' := 573) C dL_plans_572 rfl ?_
        refine g_aload (pc' := 575) C dL_plans_573 rfl rfl ?_
        refine g_iconst (v := nI 4) (pc' := 576) C dL_plans_575 (by decide) rfl ?_
        refine g_iload (pc' := 578) C dL_plans_576 rfl rfl ?_
        refine g_imulN (pc' := 579) C dL_plans_578 rfl ?_
        refine g_iconst (v := nI 3) (pc' := 580) C dL_plans_579 (by decide) rfl ?_
        refine g_iaddN (pc' := 581) C dL_plans_580 rfl ?_
        have eH2 : (upI (upI I1 13 1 (4 * h + 1) (nI (mm J h + 16 * r + 64 * sp))) 13 1 (4 * h + 2) (nI (nw + f0))) 13 1 (4 * h + 3) = nI (eH J h) := by
          rw [upI_at, if_neg (by omega), upI_at, if_neg (by omega)]; exact eH1
        refine g_iald (pc' := 582) C (4 * h + 3) rfl (by show _ < 64; omega) dL_plans_581 (al13 rfl) rfl rfl rfl ?_
        rw [eH2]
        refine g_bipush (v := nI 16) (pc' := 584) C dL_plans_582 (by decide) rfl ?_
        refine g_iremN (r := mh J h) (pc' := 585) C (by omega) (by omega) (eH_h hH4) dL_plans_584 rfl ?_
        refine g_iast (pc' := 586) C (4 * h + 3) rfl (by show _ < 64; omega) dL_plans_585 (al13 rfl) (fun _ => rfl) rfl rfl ?_
        have S2 : YS (fun j => j = h) z nw (mMv (mLv h (th J 0)) h (nI r) w (nI (nw + f0))) ((upI (upI (upI I1 13 1 (4 * h + 1) (nI (mm J h + 16 * r + 64 * sp))) 13 1 (4 * h + 2) (nI (nw + f0))) 13 1 (4 * h + 3) (nI (mh J h))) 13) := by
          rw [upI_13, upI_13, upI_13]
          have q := S1.move X1 hh rfl hr hsp1 hsp4 (f := nw + f0) (by omega)
          rw [em1, eh1] at q
          exact q
        have X2 : MI z.1 z.2 (mMv (mLv h (th J 0)) h (nI r) w (nI (nw + f0))) := X1.mv (by omega) hw
        have hO2 : Oth I (upI (upI (upI I1 13 1 (4 * h + 1) (nI (mm J h + 16 * r + 64 * sp))) 13 1 (4 * h + 2) (nI (nw + f0))) 13 1 (4 * h + 3) (nI (mh J h))) := hO1.up.up.up
        generalize (upI (upI (upI I1 13 1 (4 * h + 1) (nI (mm J h + 16 * r + 64 * sp))) 13 1 (4 * h + 2) (nI (nw + f0))) 13 1 (4 * h + 3) (nI (mh J h))) = I2 at S2 hO2 ⊢
        have j18 : mMv (mLv h (th J 0)) h (nI r) w (nI (nw + f0)) 13 18 h = nI (nw + f0) := by unfold mMv; simp [upI_at]
        refine g_iload (pc' := 588) C dL_plans_586 rfl rfl ?_
        refine g_aload_n (pc' := 589) C dL_plans_588 rfl rfl ?_
        refine g_aload (pc' := 591) C dL_plans_589 rfl rfl ?_
        refine g_aload (pc' := 593) C dL_plans_591 rfl rfl ?_
        refine g_aload (pc' := 595) C dL_plans_593 rfl rfl ?_
        refine g_aload (pc' := 597) C dL_plans_595 rfl rfl ?_
        refine g_aload (pc' := 599) C dL_plans_597 rfl rfl ?_
        refine g_aload (pc' := 601) C dL_plans_599 rfl rfl ?_
        refine g_callS (pc' := 604) (As := [.int (nI h), .ref ((Kg K).2.2 13 0), .ref ((Kg K).2.2 13 1), .ref ((Kg K).2.2 13 2), .ref ((Kg K).2.2 13 3), .ref ((Kg K).2.2 13 4), .ref ((Kg K).2.2 13 5), .ref ((Kg K).2.2 13 6)]) (S := []) C cs_L_77 (w_comes (y := z) (nw := nw) X2 S2 hh (by unfold mfr; rw [j18, nI_clamp (by omega)]; exact hlt2)) dL_plans_601 ⟨rfl, by decide +kernel, by decide +kernel, (by decide +kernel : (parseMethodDescriptor yL_comes.desc).map (fun d => d.parameters.length) = some 8)⟩ ⟨⟨Nat.le_of_ble_eq_true rfl, Nat.le_of_ble_eq_true rfl⟩, rfl, rfl⟩ rfl (Nat.le_of_ble_eq_true rfl) ⟨Nat.zero_le _, Nat.zero_le _⟩ rfl (fun v1 I3 P1 q => ?_)
        obtain ⟨rfl, q2, hO3, S3⟩ := q
        rw [q2]
        have S4 : YS (fun _ => False) z nw (mCm h (mMv (mLv h (th J 0)) h (nI r) w (nI (nw + f0)))) (I3 13) := (S3.zeros (cm_zeros X2 hh)).wk (fun j _ q => q.2 q.1)
        have hO := hO2.tr hO3
        clear S3 S2 hO3 hO2 q2
        refine g_aload_n (pc' := 605) C dL_plans_604 rfl rfl ?_
        refine g_iconst (v := nI 1) (pc' := 606) C dL_plans_605 (by decide) rfl ?_
        refine g_iload (pc' := 608) C dL_plans_606 rfl rfl ?_
        refine g_iload (pc' := 610) C dL_plans_608 rfl rfl ?_
        refine g_iload (pc' := 612) C dL_plans_610 rfl rfl ?_
        refine g_iload (pc' := 614) C dL_plans_612 rfl rfl ?_
        refine g_iconst (v := nI 0) (pc' := 615) C dL_plans_614 (by decide) rfl ?_
        have hK0 : mK9 J z.2 (nI h) (nI r) w (nI (nw + f0)) = 0 := by rw [hK, if_neg (by omega), if_pos hyes]
        refine x_callS (pc' := 618) (mc := 1) (ms := 6) (As := [.ref ((Kg K).2.2 0 0), .int (nI 1), .int (nI h), .int (nI r), .int w, .int (nI (nw + f0)), .int (nI 0)]) (S := []) C hR.k cw_L_calls (fun sz => w_c_move hfl (S.s.oth hO).X (by rw [hcK I3 hO, hK0]; decide) sz) dL_plans_615 ⟨by decide +kernel, by decide +kernel, (by decide +kernel : (parseMethodDescriptor yL_calls.desc).map (fun d => d.parameters.length) = some 7)⟩ ⟨⟨Nat.le_of_ble_eq_true rfl, Nat.le_of_ble_eq_true rfl⟩, rfl, rfl⟩ rfl (Nat.le_of_ble_eq_true rfl) ⟨Nat.le_of_ble_eq_true rfl, Nat.le_of_ble_eq_true rfl⟩ rfl (fun sz' v' g' z' I' P' O' hA' hp => ?_)
        obtain ⟨qO, hp⟩ := hp
        rcases hp with ⟨hk, q0, ⟨q1, q2⟩, q3, q4⟩ | ⟨hk, -⟩
        case inr => exact absurd ((hcK I3 hO).trans hK0) hk
        obtain ⟨S5, e5⟩ := fin_move S hO hh hK0 S4
        subst q1
        subst q2
        rw [Kw_self, q0, q3, q4, qO, e5]
        generalize (cO9 I3 P (nI h) (nI r) w (nI (nw + f0))).1 = I5 at S5 ⊢
        generalize (cO9 I3 P (nI h) (nI r) w (nI (nw + f0))).2 = P5 at S5 ⊢
        generalize mCm h (mMv (mLv h (th J 0)) h (nI r) w (nI (nw + f0))) = J5 at S5 ⊢
        have a5' : I5 13 0 (8 * mm J h + 5) = J5 13 11 (mm J h) := (S5.y.m.2.1 _ hlm).2.2.2.2.2.1
        refine g_iload (pc' := 620) C dL_plans_618 rfl rfl ?_
        refine g_aload (pc' := 622) C dL_plans_620 rfl rfl ?_
        refine g_iconst (v := nI 2) (pc' := 623) C dL_plans_622 (by decide) rfl ?_
        refine g_iald (pc' := 624) C (2) rfl (by show 2 < 3; omega) dL_plans_623 (al13 rfl) rfl rfl rfl ?_
        rw [S5.y.q2]
        refine g_icmp_gtN (tgt := 632) (pc' := 627) C (by omega) (by omega) dL_plans_624 (by decide) rfl (fun c3 => ?_) (fun c3 => absurd hlt2 (by omega))
        refine g_iload (pc' := 634) C dL_plans_632 rfl rfl ?_
        refine g_if_eq (tgt := 649) (pc' := 637) C dL_plans_634 (by decide) rfl (fun c4 => absurd c4 (by decide)) (fun c4 => ?_)
        refine g_aload_n (pc' := 638) C dL_plans_637 rfl rfl ?_
        refine g_bipush (v := nI 8) (pc' := 640) C dL_plans_638 (by decide) rfl ?_
        refine g_iload (pc' := 642) C dL_plans_640 rfl rfl ?_
        refine g_imulN (pc' := 643) C dL_plans_642 rfl ?_
        refine g_iconst (v := nI 5) (pc' := 644) C dL_plans_643 (by decide) rfl ?_
        refine g_iaddN (pc' := 645) C dL_plans_644 rfl ?_
        refine g_iald (pc' := 646) C (8 * (mm J h) + 5) rfl (by show _ < 64; omega) dL_plans_645 (al13 rfl) rfl rfl rfl ?_
        rw [a5']
        refine g_goto (tgt := 651) C dL_plans_646 (by decide) ?_
        refine g_icmp_ne (tgt := 658) (pc' := 654) C dL_plans_651 (by decide) rfl (fun c5 => absurd rfl c5) (fun c5 => ?_)
        refine g_iconst (v := nI 1) (pc' := 655) C dL_plans_654 (by decide) rfl ?_
        refine g_goto (tgt := 659) C dL_plans_655 (by decide) ?_
        exact x_zret C hR dL_plans_659 rfl (Nat.le_of_ble_eq_true rfl) (Nat.le_of_ble_eq_true rfl) ⟨rfl, by rw [nI1'], Gr.rf, _, S5⟩
    rcases hop with ⟨rfl, hop⟩ | ⟨rfl, hop⟩
    ·
      refine g_istore (pc' := 441) C dL_plans_439 rfl rfl ?_
      refine g_iload (pc' := 443) C dL_plans_441 rfl rfl ?_
      refine g_if_eq (tgt := 496) (pc' := 446) C dL_plans_443 (by decide) rfl (fun c1 => absurd c1 (by decide)) (fun c1 => ?_)
      refine g_iload (pc' := 448) C dL_plans_446 rfl rfl ?_
      refine g_iload (pc' := 450) C dL_plans_448 rfl rfl ?_
      refine g_aload_n (pc' := 451) C dL_plans_450 rfl rfl ?_
      refine g_aload (pc' := 453) C dL_plans_451 rfl rfl ?_
      refine g_callS (pc' := 456) (As := [.int (nI (mm J h)), .int w, .ref ((Kg K).2.2 13 0), .ref ((Kg K).2.2 13 5)]) (S := []) C cs_L_69 (w_fits (J := J) (by omega) hl4 (lang_of S.y hlm) (fun i hi => (S.y.w.1 i hi).1) hw) dL_plans_453 ⟨rfl, by decide +kernel, by decide +kernel, (by decide +kernel : (parseMethodDescriptor yL_fits.desc).map (fun d => d.parameters.length) = some 4)⟩ ⟨⟨Nat.le_of_ble_eq_true rfl, Nat.le_of_ble_eq_true rfl⟩, rfl, rfl⟩ rfl (Nat.le_of_ble_eq_true rfl) ⟨Nat.zero_le _, Nat.zero_le _⟩ rfl (fun v1 I1 P1 q => ?_)
      obtain ⟨rfl, q1, q2⟩ := q
      rw [q1, q2]
      refine g_if_eq (tgt := 496) (pc' := 459) C dL_plans_456 (by decide) rfl (fun c2 => ?_) (fun c2 => ?_)
      ·
        have g2 : mFit J (mm J h) w = false := b2_0.mp c2
        exact G_pick [0, 1, 2, 3, 4, 5, 6, 7, 8, 9, 10, 11, 12, 13, 14, 15, 16] rfl (no_ (fun q => by rw [q.2.2.1] at g2; cases g2))
      ·
        have g2 : mFit J (mm J h) w = true := b2_1.mp c2
        refine g_iload (pc' := 461) C dL_plans_459 rfl rfl ?_
        refine g_iload (pc' := 463) C dL_plans_461 rfl rfl ?_
        refine g_iload (pc' := 465) C dL_plans_463 rfl rfl ?_
        refine g_iload (pc' := 467) C dL_plans_465 rfl rfl ?_
        refine g_aload (pc' := 469) C dL_plans_467 rfl rfl ?_
        refine g_iconst (v := nI 4) (pc' := 470) C dL_plans_469 (by decide) rfl ?_
        refine g_iload (pc' := 472) C dL_plans_470 rfl rfl ?_
        refine g_imulN (pc' := 473) C dL_plans_472 rfl ?_
        refine g_iconst (v := nI 3) (pc' := 474) C dL_plans_473 (by decide) rfl ?_
        refine g_iaddN (pc' := 475) C dL_plans_474 rfl ?_
        refine g_iald (pc' := 476) C (4 * h + 3) rfl (by show _ < 64; omega) dL_plans_475 (al13 rfl) rfl rfl rfl ?_
        rw [(S.y.rH hh)]
        refine g_bipush (v := nI 16) (pc' := 478) C dL_plans_476 (by decide) rfl ?_
        refine g_iremN (r := mh J h) (pc' := 479) C (by omega) (by omega) (eH_h hH4) dL_plans_478 rfl ?_
        refine g_iload (pc' := 481) C dL_plans_479 rfl rfl ?_
        refine g_aload_n (pc' := 482) C dL_plans_481 rfl rfl ?_
        refine g_aload (pc' := 484) C dL_plans_482 rfl rfl ?_
        refine g_aload (pc' := 486) C dL_plans_484 rfl rfl ?_
        refine g_callS (pc' := 489) (As := [.int (nI (mm J h)), .int (nI r), .int w, .int (nI (nw + f0)), .int (nI (mh J h)), .int (nI h), .ref ((Kg K).2.2 13 0), .ref ((Kg K).2.2 13 1), .ref ((Kg K).2.2 13 6)]) (S := []) C cs_L_73 (w_clash (J := J) (nw := nw) S.s.M S.y S.pos hlm hr (by omega) (by omega) (by omega) hw) dL_plans_486 ⟨rfl, by decide +kernel, by decide +kernel, (by decide +kernel : (parseMethodDescriptor yL_clash.desc).map (fun d => d.parameters.length) = some 9)⟩ ⟨⟨Nat.le_of_ble_eq_true rfl, Nat.le_of_ble_eq_true rfl⟩, rfl, rfl⟩ rfl (Nat.le_of_ble_eq_true rfl) ⟨Nat.zero_le _, Nat.zero_le _⟩ rfl (fun v1 I1 P1 q => ?_)
        obtain ⟨rfl, q1, q2⟩ := q
        rw [q1, q2]
        rw [← e19]
        refine g_if_ne (tgt := 496) (pc' := 492) C dL_plans_489 (by decide) rfl (fun c3 => ?_) (fun c3 => ?_)
        ·
          have g3 : ¬ mRe J z.2 (mm J h) (nI r) w (nI (nw + f0)) (J 13 19 h) (nI h) = 0 := c3
          exact G_pick [0, 1, 2, 3, 4, 5, 6, 7, 8, 9, 10, 11, 12, 13, 14, 15, 16] rfl (no_ (fun q => g3 q.2.2.2))
        ·
          have g3 : mRe J z.2 (mm J h) (nI r) w (nI (nw + f0)) (J 13 19 h) (nI h) = 0 := c3
          exact G_pick [0, 1, 2, 3, 4, 5, 6, 7, 8, 9, 10, 11, 12, 13, 14, 15, 16] rfl (yes_ ⟨hop.1, hop.2, g2, g3⟩)
    ·
      refine g_istore (pc' := 441) C dL_plans_439 rfl rfl ?_
      refine g_iload (pc' := 443) C dL_plans_441 rfl rfl ?_
      refine g_if_eq (tgt := 496) (pc' := 446) C dL_plans_443 (by decide) rfl (fun c1 => ?_) (fun c1 => absurd (by decide) c1)
      exact G_pick [0, 1, 2, 3, 4, 5, 6, 7, 8, 9, 10, 11, 12, 13, 14, 15, 16] rfl (no_ (fun q => hop ⟨q.1, q.2.1⟩))
  refine g_iload_n (pc' := 404) C dL_plans_403 rfl rfl ?_
  refine g_iconst (v := nI 1) (pc' := 405) C dL_plans_404 (by decide) rfl ?_
  refine g_icmp_neN (tgt := 660) (pc' := 408) C (by omega) (by omega) dL_plans_405 (by decide) rfl (fun c1 => absurd rfl c1) (fun c1 => ?_)
  refine g_iload_n (pc' := 409) C dL_plans_408 rfl rfl ?_
  refine g_bipush (v := nI 6) (pc' := 411) C dL_plans_409 (by decide) rfl ?_
  refine g_ishr (pc' := 412) C dL_plans_411 rfl ?_
  refine g_iconst (v := nI 3) (pc' := 413) C dL_plans_412 (by decide) rfl ?_
  refine g_callS (pc' := 416) (As := [.int (v >>> (nI 6 &&& 31)), .int (nI 3)]) (S := []) C cs_L_65 (w_low (b := 3) (by omega) (by omega)) dL_plans_413 ⟨rfl, by decide +kernel, by decide +kernel, (by decide +kernel : (parseMethodDescriptor yL_low.desc).map (fun d => d.parameters.length) = some 2)⟩ ⟨⟨Nat.le_of_ble_eq_true rfl, Nat.le_of_ble_eq_true rfl⟩, rfl, rfl⟩ rfl (Nat.le_of_ble_eq_true rfl) ⟨Nat.zero_le _, Nat.zero_le _⟩ rfl (fun v1 I1 P1 q => ?_)
  obtain ⟨rfl, q1, q2⟩ := q
  rw [q1, q2]
  obtain ⟨t0, ht0, et0⟩ : ∃ r, r < 3 ∧ lowN (v >>> (nI 6 &&& 31)) 3 = r := ⟨_, lowN_lt (by omega), rfl⟩
  rw [et0]
  refine g_if_le (tgt := 429) (pc' := 419) C dL_plans_416 (by decide) rfl (fun c2 => ?_) (fun c2 => ?_)
  ·
    skip
    refine g_iload_n (pc' := 430) C dL_plans_429 rfl rfl ?_
    refine g_bipush (v := nI 7) (pc' := 432) C dL_plans_430 (by decide) rfl ?_
    refine g_ishr (pc' := 433) C dL_plans_432 rfl ?_
    refine g_iconst (v := nI 5) (pc' := 434) C dL_plans_433 (by decide) rfl ?_
    refine g_callS (pc' := 437) (As := [.int (v >>> (nI 7 &&& 31)), .int (nI 5)]) (S := []) C cs_L_65 (w_low (b := 5) (by omega) (by omega)) dL_plans_434 ⟨rfl, by decide +kernel, by decide +kernel, (by decide +kernel : (parseMethodDescriptor yL_low.desc).map (fun d => d.parameters.length) = some 2)⟩ ⟨⟨Nat.le_of_ble_eq_true rfl, Nat.le_of_ble_eq_true rfl⟩, rfl, rfl⟩ rfl (Nat.le_of_ble_eq_true rfl) ⟨Nat.zero_le _, Nat.zero_le _⟩ rfl (fun v1 I1 P1 q => ?_)
    obtain ⟨rfl, q1, q2⟩ := q
    rw [q1, q2]
    obtain ⟨s0, hs0, es0⟩ : ∃ r, r < 5 ∧ lowN (v >>> (nI 7 &&& 31)) 5 = r := ⟨_, lowN_lt (by omega), rfl⟩
    rw [es0]
    refine g_iconst (v := nI 1) (pc' := 438) C dL_plans_437 (by decide) rfl ?_
    refine g_isub (pc' := 439) C dL_plans_438 rfl ?_
    exact G_pick [0, 1, 2, 3, 4, 5, 6, 7, 8, 9, 10, 11, 12, 13, 14, 15] rfl (A439 _ (who_5 hs0))
  ·
    skip
    refine g_iload (pc' := 421) C dL_plans_419 rfl rfl ?_
    refine g_aload (pc' := 423) C dL_plans_421 rfl rfl ?_
    refine g_callS (pc' := 426) (As := [.int (nI h), .ref ((Kg K).2.2 13 1)]) (S := []) C cs_L_47 (w_speaker (sp := (J 13 17 h)) (S.y.rA hh) (by omega) (by omega) (by rw [eA_s hm12 hr4, S.y.spv hh])) dL_plans_423 ⟨rfl, by decide +kernel, by decide +kernel, (by decide +kernel : (parseMethodDescriptor yL_speaker.desc).map (fun d => d.parameters.length) = some 2)⟩ ⟨⟨Nat.le_of_ble_eq_true rfl, Nat.le_of_ble_eq_true rfl⟩, rfl, rfl⟩ rfl (Nat.le_of_ble_eq_true rfl) ⟨Nat.zero_le _, Nat.zero_le _⟩ rfl (fun v1 I1 P1 q => ?_)
    obtain ⟨rfl, q1, q2⟩ := q
    rw [q1, q2]
    refine g_goto (tgt := 439) C dL_plans_426 (by decide) ?_
    exact G_pick [0, 1, 2, 3, 4, 5, 6, 7, 8, 9, 10, 11, 12, 13, 14, 15] rfl (A439 _ ((X.sp hh).imp id (fun q => ⟨_, q.2, q.1⟩)))
set_option maxRecDepth 20000 in
theorem l_drop {K : wK} {z : wZ} {I : wI} {P : wP} {O : wO} {nw : Nat} {J : wI} {sz : Nat} (hfl : (Kl K).stackTraces = false) (C : Cx K cL_plans RL 20 (some .boolean) { frames := 8, cells := 2, slots := 14, locals := 150 } z) (hR : Rq K (Kg K) z sz I P O 2 14 (oP (Kg K) z sz nw O) (fun _ => False)) (S : Stt z nw I P J) (hz : 0 < z.1) (hn9 : nw ≤ 900) {v : Int32} : G K z I P O 0 0 0 [(0, .ref ((Kg K).2.2 0 0)), (1, .int (nI 2)), (2, .int v), (3, .ref ((Kg K).2.2 13 0)), (4, .ref ((Kg K).2.2 13 1)), (5, .ref ((Kg K).2.2 13 2)), (6, .ref ((Kg K).2.2 13 3)), (7, .ref ((Kg K).2.2 13 4)), (8, .ref ((Kg K).2.2 13 5)), (9, .ref ((Kg K).2.2 13 6))] [] := by
  refine l_pl0 hfl C hR S hz hn9 (fun r f0 d0 hr hf0 hd0 => ?_)
  refine l_hear hfl C hR S hz hn9 (by decide) (fun h op hh hop => ?_)
  have hN16 := S.y.N16
  have hM8 := S.y.M8
  have X := S.s.M
  have hm12 : mm J h < 12 := X.mt2 hh
  have hlm : mm J h < z.1 := X.mtM hh
  have hm8 : mm J h < 8 := Nat.lt_of_lt_of_le hlm hM8
  have hr4 := S.y.rm4 hh
  have hs4 := S.y.sp4 hh
  have hlt := eA_lt hm12 hr4 hs4
  have hH4 := X.hr4 hh
  have hnt3 := S.y.nt3 hh
  have hHlt := eH_lt hH4 hnt3
  obtain ⟨e18, f9⟩ := X.fr hh
  have e19 := X.hr hh
  have hp0 := S.pos h hh
  have hnh : (nI h).toNatClampNeg = h := nI_clamp (by omega)
  have hK := K10_v S.y X hh
  have hcK : ∀ I2, Oth I I2 → cK10 I2 z.2 (nI h) = mK10 J z.2 (nI h) := fun I2 hO => cK10_eq (S.s.oth hO)
  rcases hop with ⟨rfl, hop⟩ | ⟨rfl, hop⟩
  ·
    refine g_iload_n (pc' := 404) C dL_plans_403 rfl rfl ?_
    refine g_iconst (v := nI 1) (pc' := 405) C dL_plans_404 (by decide) rfl ?_
    refine g_icmp_neN (tgt := 660) (pc' := 408) C (by omega) (by omega) dL_plans_405 (by decide) rfl (fun c1 => ?_) (fun c1 => absurd c1 (by decide))
    refine g_iload_n (pc' := 661) C dL_plans_660 rfl rfl ?_
    refine g_iconst (v := nI 2) (pc' := 662) C dL_plans_661 (by decide) rfl ?_
    refine g_icmp_neN (tgt := 733) (pc' := 665) C (by omega) (by omega) dL_plans_662 (by decide) rfl (fun c2 => absurd rfl c2) (fun c2 => ?_)
    refine g_iload (pc' := 667) C dL_plans_665 rfl rfl ?_
    refine g_if_eq (tgt := 694) (pc' := 670) C dL_plans_667 (by decide) rfl (fun c3 => absurd c3 (by decide)) (fun c3 => ?_)
    refine g_iload (pc' := 672) C dL_plans_670 rfl rfl ?_
    refine g_aload_n (pc' := 673) C dL_plans_672 rfl rfl ?_
    refine g_aload (pc' := 675) C dL_plans_673 rfl rfl ?_
    refine g_aload (pc' := 677) C dL_plans_675 rfl rfl ?_
    refine g_aload (pc' := 679) C dL_plans_677 rfl rfl ?_
    refine g_aload (pc' := 681) C dL_plans_679 rfl rfl ?_
    refine g_aload (pc' := 683) C dL_plans_681 rfl rfl ?_
    have hp14 : th J 0 13 14 h = 0 := by rw [th_13]; exact hop.1
    refine g_callS (pc' := 686) (As := [.int (nI h), .ref ((Kg K).2.2 13 0), .ref ((Kg K).2.2 13 1), .ref ((Kg K).2.2 13 2), .ref ((Kg K).2.2 13 3), .ref ((Kg K).2.2 13 4), .ref ((Kg K).2.2 13 6)]) (S := []) C cs_L_85 (w_leaves (nw := nw) (J := th J 0) (ex := fun j => j = h) S.th0.s.M (S.th0.y.wk (fun _ _ q => q.elim)) rfl hh (S.th0.ap hh hp14) (S.th0.y.fre hh (fun q => q) hp14)) dL_plans_683 ⟨rfl, by decide +kernel, by decide +kernel, (by decide +kernel : (parseMethodDescriptor yL_leaves.desc).map (fun d => d.parameters.length) = some 7)⟩ ⟨⟨Nat.le_of_ble_eq_true rfl, Nat.le_of_ble_eq_true rfl⟩, rfl, rfl⟩ rfl (Nat.le_of_ble_eq_true rfl) ⟨Nat.zero_le _, Nat.zero_le _⟩ rfl (fun v1 I1 P1 q => ?_)
    obtain ⟨rfl, q2, hO1, S1⟩ := q
    rw [q2]
    have X1 : MI z.1 z.2 (mLv h (th J 0)) := S.th0.s.M.lv' hh
    have em1 : mm (mLv h (th J 0)) h = mm J h := by unfold mm; rw [mLv_off (by decide) (by decide) (by decide), th_13]
    have eh1 : mh (mLv h (th J 0)) h = mh J h := by unfold mh; rw [mLv_off (by decide) (by decide) (by decide), th_13]
    have eH1 : I1 13 1 (4 * h + 3) = nI (eH J h) := (S1.rH hh).trans (by unfold eH; rw [eh1]; unfold ntN; rw [mLv_off (by decide) (by decide) (by decide), th_13])
    clear q2
    refine g_aload (pc' := 688) C dL_plans_686 rfl rfl ?_
    refine g_iconst (v := nI 4) (pc' := 689) C dL_plans_688 (by decide) rfl ?_
    refine g_iload (pc' := 691) C dL_plans_689 rfl rfl ?_
    refine g_imulN (pc' := 692) C dL_plans_691 rfl ?_
    refine g_iconst (v := nI 3) (pc' := 693) C dL_plans_692 (by decide) rfl ?_
    refine g_iast (pc' := 694) C (4 * h) rfl (by show _ < 64; omega) dL_plans_693 (al13 rfl) (fun _ => rfl) rfl rfl ?_
    have S2 : YS (fun _ => False) z nw (upI (mLv h (th J 0)) 13 14 h 3) ((upI I1 13 1 (4 * h) (nI 3)) 13) := by
      rw [upI_13]
      exact (S1.hst hh (v := 3) (by decide) (by decide) (by decide)).wk (fun j _ q => q.2 q.1)
    have hO : Oth I (upI I1 13 1 (4 * h) (nI 3)) := hO1.up
    generalize (upI I1 13 1 (4 * h) (nI 3)) = I3 at S2 hO ⊢
    refine g_aload_n (pc' := 695) C dL_plans_694 rfl rfl ?_
    refine g_iconst (v := nI 2) (pc' := 696) C dL_plans_695 (by decide) rfl ?_
    refine g_iload (pc' := 698) C dL_plans_696 rfl rfl ?_
    refine g_iconst (v := nI 0) (pc' := 699) C dL_plans_698 (by decide) rfl ?_
    refine g_iconst (v := nI 0) (pc' := 700) C dL_plans_699 (by decide) rfl ?_
    refine g_iconst (v := nI 0) (pc' := 701) C dL_plans_700 (by decide) rfl ?_
    refine g_iconst (v := nI 0) (pc' := 702) C dL_plans_701 (by decide) rfl ?_
    have hK0 : mK10 J z.2 (nI h) = 0 := by rw [hK, if_pos hop]
    refine x_callS (pc' := 705) (mc := 1) (ms := 6) (As := [.ref ((Kg K).2.2 0 0), .int (nI 2), .int (nI h), .int (nI 0), .int (nI 0), .int (nI 0), .int (nI 0)]) (S := []) C hR.k cw_L_calls (fun sz => w_c_drop hfl (S.s.oth hO).X (by rw [hcK I3 hO, hK0]; decide) sz) dL_plans_702 ⟨by decide +kernel, by decide +kernel, (by decide +kernel : (parseMethodDescriptor yL_calls.desc).map (fun d => d.parameters.length) = some 7)⟩ ⟨⟨Nat.le_of_ble_eq_true rfl, Nat.le_of_ble_eq_true rfl⟩, rfl, rfl⟩ rfl (Nat.le_of_ble_eq_true rfl) ⟨Nat.le_of_ble_eq_true rfl, Nat.le_of_ble_eq_true rfl⟩ rfl (fun sz' v' g' z' I' P' O' hA' hp => ?_)
    obtain ⟨qO, hp⟩ := hp
    rcases hp with ⟨hk, q0, ⟨q1, q2⟩, q3, q4⟩ | ⟨hk, -⟩
    case inr => exact absurd ((hcK I3 hO).trans hK0) hk
    obtain ⟨S5, e5⟩ := fin_drop S hO hh hK0 S2
    subst q1
    subst q2
    rw [Kw_self, q0, q3, q4, qO, e5]
    generalize (cO10 I3 P (nI h)).1 = I5 at S5 ⊢
    generalize (cO10 I3 P (nI h)).2 = P5 at S5 ⊢
    generalize upI (mLv h (th J 0)) 13 14 h 3 = J5 at S5 ⊢
    have a5' : I5 13 0 (8 * mm J h + 5) = J5 13 11 (mm J h) := (S5.y.m.2.1 _ hlm).2.2.2.2.2.1
    refine g_iload (pc' := 707) C dL_plans_705 rfl rfl ?_
    refine g_if_eq (tgt := 722) (pc' := 710) C dL_plans_707 (by decide) rfl (fun c4 => absurd c4 (by decide)) (fun c4 => ?_)
    refine g_aload_n (pc' := 711) C dL_plans_710 rfl rfl ?_
    refine g_bipush (v := nI 8) (pc' := 713) C dL_plans_711 (by decide) rfl ?_
    refine g_iload (pc' := 715) C dL_plans_713 rfl rfl ?_
    refine g_imulN (pc' := 716) C dL_plans_715 rfl ?_
    refine g_iconst (v := nI 5) (pc' := 717) C dL_plans_716 (by decide) rfl ?_
    refine g_iaddN (pc' := 718) C dL_plans_717 rfl ?_
    refine g_iald (pc' := 719) C (8 * (mm J h) + 5) rfl (by show _ < 64; omega) dL_plans_718 (al13 rfl) rfl rfl rfl ?_
    rw [a5']
    refine g_goto (tgt := 724) C dL_plans_719 (by decide) ?_
    refine g_icmp_ne (tgt := 731) (pc' := 727) C dL_plans_724 (by decide) rfl (fun c5 => absurd rfl c5) (fun c5 => ?_)
    refine g_iconst (v := nI 1) (pc' := 728) C dL_plans_727 (by decide) rfl ?_
    refine g_goto (tgt := 732) C dL_plans_728 (by decide) ?_
    exact x_zret C hR dL_plans_732 rfl (Nat.le_of_ble_eq_true rfl) (Nat.le_of_ble_eq_true rfl) ⟨rfl, by rw [nI1'], Gr.rf, _, S5⟩
  ·
    refine g_iload_n (pc' := 404) C dL_plans_403 rfl rfl ?_
    refine g_iconst (v := nI 1) (pc' := 405) C dL_plans_404 (by decide) rfl ?_
    refine g_icmp_neN (tgt := 660) (pc' := 408) C (by omega) (by omega) dL_plans_405 (by decide) rfl (fun c1 => ?_) (fun c1 => absurd c1 (by decide))
    refine g_iload_n (pc' := 661) C dL_plans_660 rfl rfl ?_
    refine g_iconst (v := nI 2) (pc' := 662) C dL_plans_661 (by decide) rfl ?_
    refine g_icmp_neN (tgt := 733) (pc' := 665) C (by omega) (by omega) dL_plans_662 (by decide) rfl (fun c2 => absurd rfl c2) (fun c2 => ?_)
    refine g_iload (pc' := 667) C dL_plans_665 rfl rfl ?_
    refine g_if_eq (tgt := 694) (pc' := 670) C dL_plans_667 (by decide) rfl (fun c3 => ?_) (fun c3 => absurd (by decide) c3)
    refine g_aload_n (pc' := 695) C dL_plans_694 rfl rfl ?_
    refine g_iconst (v := nI 2) (pc' := 696) C dL_plans_695 (by decide) rfl ?_
    refine g_iload (pc' := 698) C dL_plans_696 rfl rfl ?_
    refine g_iconst (v := nI 0) (pc' := 699) C dL_plans_698 (by decide) rfl ?_
    refine g_iconst (v := nI 0) (pc' := 700) C dL_plans_699 (by decide) rfl ?_
    refine g_iconst (v := nI 0) (pc' := 701) C dL_plans_700 (by decide) rfl ?_
    refine g_iconst (v := nI 0) (pc' := 702) C dL_plans_701 (by decide) rfl ?_
    refine x_callS (pc' := 705) (mc := 1) (ms := 6) (As := [.ref ((Kg K).2.2 0 0), .int (nI 2), .int (nI h), .int (nI 0), .int (nI 0), .int (nI 0), .int (nI 0)]) (S := []) C hR.k cw_L_calls (fun sz => w_c_drop hfl S.s.X (by rw [hcK I Oth.rf, hK, if_neg hop]; decide) sz) dL_plans_702 ⟨by decide +kernel, by decide +kernel, (by decide +kernel : (parseMethodDescriptor yL_calls.desc).map (fun d => d.parameters.length) = some 7)⟩ ⟨⟨Nat.le_of_ble_eq_true rfl, Nat.le_of_ble_eq_true rfl⟩, rfl, rfl⟩ rfl (Nat.le_of_ble_eq_true rfl) ⟨Nat.le_of_ble_eq_true rfl, Nat.le_of_ble_eq_true rfl⟩ rfl (fun sz' v' g' z' I' P' O' hA' hp => ?_)
    obtain ⟨qO, hp⟩ := hp
    rcases hp with ⟨hk, -⟩ | ⟨hk, q0, q1, q2, q3, q4⟩
    · exact absurd hk (by rw [hcK I Oth.rf, hK, if_neg hop]; decide)
    rw [q0, q1, q2, q3, q4, qO, Kw_self]
    refine g_iload (pc' := 707) C dL_plans_705 rfl rfl ?_
    refine g_if_eq (tgt := 722) (pc' := 710) C dL_plans_707 (by decide) rfl (fun c4 => ?_) (fun c4 => absurd (by decide) c4)
    refine g_ldc (v := (-100003)) (pc' := 724) C kL_46 dL_plans_722 rfl ?_
    refine g_icmp_ne (tgt := 731) (pc' := 727) C dL_plans_724 (by decide) rfl (fun c5 => absurd rfl c5) (fun c5 => ?_)
    refine g_iconst (v := nI 1) (pc' := 728) C dL_plans_727 (by decide) rfl ?_
    refine g_goto (tgt := 732) C dL_plans_728 (by decide) ?_
    exact x_zret C hR dL_plans_732 rfl (Nat.le_of_ble_eq_true rfl) (Nat.le_of_ble_eq_true rfl) ⟨rfl, by rw [nI1'], Gr.rf, J, S⟩
set_option maxRecDepth 20000 in
theorem l_notice {K : wK} {z : wZ} {I : wI} {P : wP} {O : wO} {nw : Nat} {J : wI} {sz : Nat} (hfl : (Kl K).stackTraces = false) (C : Cx K cL_plans RL 20 (some .boolean) { frames := 8, cells := 2, slots := 14, locals := 150 } z) (hR : Rq K (Kg K) z sz I P O 2 14 (oP (Kg K) z sz nw O) (fun _ => False)) (S : Stt z nw I P J) (hz : 0 < z.1) (hn9 : nw ≤ 900) {v : Int32} : G K z I P O 0 0 0 [(0, .ref ((Kg K).2.2 0 0)), (1, .int (nI 3)), (2, .int v), (3, .ref ((Kg K).2.2 13 0)), (4, .ref ((Kg K).2.2 13 1)), (5, .ref ((Kg K).2.2 13 2)), (6, .ref ((Kg K).2.2 13 3)), (7, .ref ((Kg K).2.2 13 4)), (8, .ref ((Kg K).2.2 13 5)), (9, .ref ((Kg K).2.2 13 6))] [] := by
  refine l_pl0 hfl C hR S hz hn9 (fun r f0 d0 hr hf0 hd0 => ?_)
  refine l_hear hfl C hR S hz hn9 (by decide) (fun h op hh hop => ?_)
  have hN16 := S.y.N16
  have hM8 := S.y.M8
  have X := S.s.M
  have hm12 : mm J h < 12 := X.mt2 hh
  have hlm : mm J h < z.1 := X.mtM hh
  have hm8 : mm J h < 8 := Nat.lt_of_lt_of_le hlm hM8
  have hr4 := S.y.rm4 hh
  have hs4 := S.y.sp4 hh
  have hlt := eA_lt hm12 hr4 hs4
  have hH4 := X.hr4 hh
  have hnt3 := S.y.nt3 hh
  have hHlt := eH_lt hH4 hnt3
  obtain ⟨e18, f9⟩ := X.fr hh
  have e19 := X.hr hh
  have hp0 := S.pos h hh
  have hnh : (nI h).toNatClampNeg = h := nI_clamp (by omega)
  obtain ⟨-, -, m2, m3, -⟩ := S.y.m.2.1 (mm J h) hlm
  obtain ⟨e8, e86⟩ := X.fs hlm
  obtain ⟨p9, e96, e9⟩ := S.y.m.2.2.2 (mm J h) hlm
  obtain ⟨-, -, -, -, -, -, -, -, ent, -, e14, h143⟩ := S.y.a.2 h hh
  have A773 : ∀ p : Nat, p < 6 → G K z I P O 0 0 773 [(0, .ref ((Kg K).2.2 0 0)), (1, .int (nI 3)), (2, .int v), (3, .ref ((Kg K).2.2 13 0)), (4, .ref ((Kg K).2.2 13 1)), (5, .ref ((Kg K).2.2 13 2)), (6, .ref ((Kg K).2.2 13 3)), (7, .ref ((Kg K).2.2 13 4)), (8, .ref ((Kg K).2.2 13 5)), (9, .ref ((Kg K).2.2 13 6)), (10, .int (nI r)), (11, .int (nI (nw + f0))), (12, .int (nI (1 + d0))), (13, .int (nI h)), (14, .int (nI (mm J h))), (15, .int (nI op))] [.int (nI p)] := by
    intro p hp6
    have hK := K11_v S.y hh hp6
    have hcK : ∀ I2, Oth I I2 → cK11 I2 P z.2 (nI h) (nI p) = mK11 J z.2 (nI h) (nI p) := fun I2 hO => cK11_eq (S.s.oth hO)
    have A862 : ∀ (b : Nat) (due : Int32), b ≤ 2 → ((due = -100002 ∧ mK11 J z.2 (nI h) (nI p) = 2) ∨ (due = -100003 ∧ mK11 J z.2 (nI h) (nI p) = 3) ∨ (due = nI 0 ∧ mK11 J z.2 (nI h) (nI p) = 0 ∧ mfr J h < nw + 4) ∨ (due = nI 1 ∧ mK11 J z.2 (nI h) (nI p) = 0 ∧ ¬ mfr J h < nw + 4 ∧ nI b = (if J 13 8 (mm J h) = nI p then 1 else 2))) → G K z I P O 0 0 862 [(0, .ref ((Kg K).2.2 0 0)), (1, .int (nI 3)), (2, .int v), (3, .ref ((Kg K).2.2 13 0)), (4, .ref ((Kg K).2.2 13 1)), (5, .ref ((Kg K).2.2 13 2)), (6, .ref ((Kg K).2.2 13 3)), (7, .ref ((Kg K).2.2 13 4)), (8, .ref ((Kg K).2.2 13 5)), (9, .ref ((Kg K).2.2 13 6)), (10, .int (nI r)), (11, .int (nI (nw + f0))), (12, .int (nI (1 + d0))), (13, .int (nI h)), (14, .int (nI (mm J h))), (15, .int (nI op)), (16, .int (nI p)), (17, .int (nI b))] [.int due] := by
      intro b due hb2 hcase
      have j18 : J 13 18 h - J 12 0 1 < 4 ↔ mfr J h < nw + 4 := by rw [e18, S.y.jn]; exact sub_lt4 (by omega) (by omega)
      have hdue : due = nI 1 ↔ (mK11 J z.2 (nI h) (nI p) = 0 ∧ ¬ mfr J h < nw + 4 ∧ nI b = (if J 13 8 (mm J h) = nI p then 1 else 2)) := by
        rcases hcase with ⟨rfl, e⟩ | ⟨rfl, e⟩ | ⟨rfl, e, e2⟩ | ⟨rfl, e⟩
        · rw [e]; constructor
          · intro q; exact absurd q (by decide)
          · intro q; exact absurd q.1 (by decide)
        · rw [e]; constructor
          · intro q; exact absurd q (by decide)
          · intro q; exact absurd q.1 (by decide)
        · constructor
          · intro q; exact absurd q (by decide)
          · intro q; exact absurd e2 q.2.1
        · exact ⟨fun _ => e, fun _ => rfl⟩
      have tail : ∀ (I2 J2 : wI), Oth I I2 → YS (fun _ => False) z nw J2 (I2 13) → (mK11 J z.2 (nI h) (nI p) = 0 → J2 = upI J 13 20 h (J 13 20 h ||| if J 13 18 h - J 12 0 1 < 4 then 0 else if J 13 8 (mm J h) = nI p then 1 else 2)) → (¬ mK11 J z.2 (nI h) (nI p) = 0 → J2 = J) → G K z I2 P O 0 0 919 [(0, .ref ((Kg K).2.2 0 0)), (1, .int (nI 3)), (2, .int v), (3, .ref ((Kg K).2.2 13 0)), (4, .ref ((Kg K).2.2 13 1)), (5, .ref ((Kg K).2.2 13 2)), (6, .ref ((Kg K).2.2 13 3)), (7, .ref ((Kg K).2.2 13 4)), (8, .ref ((Kg K).2.2 13 5)), (9, .ref ((Kg K).2.2 13 6)), (10, .int (nI r)), (11, .int (nI (nw + f0))), (12, .int (nI (1 + d0))), (13, .int (nI h)), (14, .int (nI (mm J h))), (15, .int (nI op)), (16, .int (nI p)), (17, .int (nI b)), (18, .int due), (19, .int (nI (ntN J h)))] [] := by
        intro I2 J2 hO Y2 h0 h1
        have hk1 : ¬ cK11 I2 P z.2 (nI h) (nI p) = 1 := by
          rw [hcK I2 hO]
          rcases hcase with ⟨-, e⟩ | ⟨-, e⟩ | ⟨-, e, -⟩ | ⟨-, e, -⟩ <;> rw [e] <;> decide
        refine g_aload_n (pc' := 920) C dL_plans_919 rfl rfl ?_
        refine g_bipush (v := nI 7) (pc' := 922) C dL_plans_920 (by decide) rfl ?_
        refine g_iload (pc' := 924) C dL_plans_922 rfl rfl ?_
        refine g_iload (pc' := 926) C dL_plans_924 rfl rfl ?_
        refine g_iconst (v := nI 0) (pc' := 927) C dL_plans_926 (by decide) rfl ?_
        refine g_iconst (v := nI 0) (pc' := 928) C dL_plans_927 (by decide) rfl ?_
        refine g_iconst (v := nI 0) (pc' := 929) C dL_plans_928 (by decide) rfl ?_
        refine x_callS (pc' := 932) (mc := 1) (ms := 6) (As := [.ref ((Kg K).2.2 0 0), .int (nI 7), .int (nI h), .int (nI p), .int (nI 0), .int (nI 0), .int (nI 0)]) (S := []) C hR.k cw_L_calls (fun sz => w_c_notice hfl (S.s.oth hO).X hk1 sz) dL_plans_929 ⟨by decide +kernel, by decide +kernel, (by decide +kernel : (parseMethodDescriptor yL_calls.desc).map (fun d => d.parameters.length) = some 7)⟩ ⟨⟨Nat.le_of_ble_eq_true rfl, Nat.le_of_ble_eq_true rfl⟩, rfl, rfl⟩ rfl (Nat.le_of_ble_eq_true rfl) ⟨Nat.le_of_ble_eq_true rfl, Nat.le_of_ble_eq_true rfl⟩ rfl (fun sz' v' g' z' I' P' O' hA' hp => ?_)
        obtain ⟨qO, hp⟩ := hp
        rcases hp with ⟨hk, q0, ⟨q1, q2⟩, q3, q4⟩ | ⟨hk, q0, q1, q2, q3, q4⟩
        · have hK0 := (hcK I2 hO).symm.trans hk
          obtain ⟨S5, e5⟩ := fin_notice S hO hh hK0 rfl rfl (by rw [← h0 hK0]; exact Y2)
          have hr : (if (cO11 I2 P (nI h) (nI p)).2 = 0 then (0 : Int32) else 1) = due := by
            rw [e5]
            rcases hcase with ⟨-, e⟩ | ⟨-, e⟩ | ⟨e1, -, e2⟩ | ⟨e1, -, e2, -⟩
            · rw [e] at hK0; exact absurd hK0 (by decide)
            · rw [e] at hK0; exact absurd hK0 (by decide)
            · rw [if_pos (j18.mpr e2), e1]; decide
            · rw [if_neg (fun q => e2 (j18.mp q)), e1]; decide
          subst q1
          subst q2
          rw [Kw_self, q0, q3, q4, qO, hr]
          refine g_iload (pc' := 934) C dL_plans_932 rfl rfl ?_
          refine g_icmp_ne (tgt := 941) (pc' := 937) C dL_plans_934 (by decide) rfl (fun c1 => absurd rfl c1) (fun c1 => ?_)
          refine g_iconst (v := nI 1) (pc' := 938) C dL_plans_937 (by decide) rfl ?_
          refine g_goto (tgt := 942) C dL_plans_938 (by decide) ?_
          exact x_zret C hR dL_plans_942 rfl (Nat.le_of_ble_eq_true rfl) (Nat.le_of_ble_eq_true rfl) ⟨rfl, by rw [nI1'], Gr.rf, _, S5⟩
        · have hK1 : ¬ mK11 J z.2 (nI h) (nI p) = 0 := fun e => hk ((hcK I2 hO).trans e)
          have S5 : Stt z nw I2 P J := S.oth hO (by rw [← h1 hK1]; exact Y2)
          have hr : (if cK11 I2 P z.2 (nI h) (nI p) = 2 then (-100002 : Int32) else -100003) = due := by
            rw [hcK I2 hO]
            rcases hcase with ⟨e1, e⟩ | ⟨e1, e⟩ | ⟨-, e, -⟩ | ⟨-, e, -⟩
            · rw [e, e1]; rfl
            · rw [e, e1]; rfl
            · exact absurd e hK1
            · exact absurd e hK1
          rw [q0, q1, q2, q3, q4, qO, Kw_self, hr]
          refine g_iload (pc' := 934) C dL_plans_932 rfl rfl ?_
          refine g_icmp_ne (tgt := 941) (pc' := 937) C dL_plans_934 (by decide) rfl (fun c1 => absurd rfl c1) (fun c1 => ?_)
          refine g_iconst (v := nI 1) (pc' := 938) C dL_plans_937 (by decide) rfl ?_
          refine g_goto (tgt := 942) C dL_plans_938 (by decide) ?_
          exact x_zret C hR dL_plans_942 rfl (Nat.le_of_ble_eq_true rfl) (Nat.le_of_ble_eq_true rfl) ⟨rfl, by rw [nI1'], Gr.rf, _, S5⟩
      refine g_istore (pc' := 864) C dL_plans_862 rfl rfl ?_
      refine g_aload (pc' := 866) C dL_plans_864 rfl rfl ?_
      refine g_iconst (v := nI 4) (pc' := 867) C dL_plans_866 (by decide) rfl ?_
      refine g_iload (pc' := 869) C dL_plans_867 rfl rfl ?_
      refine g_imulN (pc' := 870) C dL_plans_869 rfl ?_
      refine g_iconst (v := nI 3) (pc' := 871) C dL_plans_870 (by decide) rfl ?_
      refine g_iaddN (pc' := 872) C dL_plans_871 rfl ?_
      refine g_iald (pc' := 873) C (4 * h + 3) rfl (by show _ < 64; omega) dL_plans_872 (al13 rfl) rfl rfl rfl ?_
      rw [(S.y.rH hh)]
      refine g_bipush (v := nI 16) (pc' := 875) C dL_plans_873 (by decide) rfl ?_
      refine g_idivN (r := ntN J h) (pc' := 876) C (by omega) (by omega) (eH_n hH4) dL_plans_875 rfl ?_
      refine g_istore (pc' := 878) C dL_plans_876 rfl rfl ?_
      refine g_aload (pc' := 880) C dL_plans_878 rfl rfl ?_
      refine g_iconst (v := nI 4) (pc' := 881) C dL_plans_880 (by decide) rfl ?_
      refine g_iload (pc' := 883) C dL_plans_881 rfl rfl ?_
      refine g_imulN (pc' := 884) C dL_plans_883 rfl ?_
      refine g_iconst (v := nI 3) (pc' := 885) C dL_plans_884 (by decide) rfl ?_
      refine g_iaddN (pc' := 886) C dL_plans_885 rfl ?_
      refine g_aload (pc' := 888) C dL_plans_886 rfl rfl ?_
      refine g_iconst (v := nI 4) (pc' := 889) C dL_plans_888 (by decide) rfl ?_
      refine g_iload (pc' := 891) C dL_plans_889 rfl rfl ?_
      refine g_imulN (pc' := 892) C dL_plans_891 rfl ?_
      refine g_iconst (v := nI 3) (pc' := 893) C dL_plans_892 (by decide) rfl ?_
      refine g_iaddN (pc' := 894) C dL_plans_893 rfl ?_
      refine g_iald (pc' := 895) C (4 * h + 3) rfl (by show _ < 64; omega) dL_plans_894 (al13 rfl) rfl rfl rfl ?_
      rw [(S.y.rH hh)]
      refine g_bipush (v := nI 16) (pc' := 897) C dL_plans_895 (by decide) rfl ?_
      refine g_iremN (r := mh J h) (pc' := 898) C (by omega) (by omega) (eH_h hH4) dL_plans_897 rfl ?_
      refine g_bipush (v := nI 16) (pc' := 900) C dL_plans_898 (by decide) rfl ?_
      refine g_iload (pc' := 902) C dL_plans_900 rfl rfl ?_
      refine g_iconst (v := nI 1) (pc' := 903) C dL_plans_902 (by decide) rfl ?_
      refine g_icmp_ne (tgt := 914) (pc' := 906) C dL_plans_903 (by decide) rfl (fun c1 => ?_) (fun c1 => ?_)
      ·
        have g1 : ¬ due = nI 1 := c1
        refine g_iload (pc' := 916) C dL_plans_914 rfl rfl ?_
        refine g_imulN (pc' := 917) C dL_plans_916 rfl ?_
        refine g_iaddN (pc' := 918) C dL_plans_917 rfl ?_
        refine g_iast (pc' := 919) C (4 * h + 3) rfl (by show _ < 64; omega) dL_plans_918 (al13 rfl) (fun _ => rfl) rfl rfl ?_
        have S2 : YS (fun _ => False) z nw J ((upI I 13 1 (4 * h + 3) (nI (mh J h + 16 * (ntN J h)))) 13) := by
          rw [upI_13]
          have q := S.y.nt hh hnt3 ent
          rw [upI_self] at q
          exact q
        have hO2 : Oth I (upI I 13 1 (4 * h + 3) (nI (mh J h + 16 * (ntN J h)))) := Oth.rf.up
        generalize (upI I 13 1 (4 * h + 3) (nI (mh J h + 16 * (ntN J h)))) = I2 at S2 hO2 ⊢
        refine G_pick [0, 1, 2, 3, 4, 5, 6, 7, 8, 9, 10, 11, 12, 13, 14, 15, 16, 17, 18, 19] rfl (tail I2 J hO2 S2 (fun e => ?_) (fun _ => rfl))
        rcases hcase with ⟨-, e1⟩ | ⟨-, e1⟩ | ⟨-, -, e1⟩ | ⟨e1, -⟩
        · rw [e1] at e; exact absurd e (by decide)
        · rw [e1] at e; exact absurd e (by decide)
        · rw [if_pos (j18.mpr e1), Int32.or_zero, upI_self]
        · exact absurd e1 g1
      ·
        have g1 : due = nI 1 := c1
        obtain ⟨o1, o2⟩ := or_nt hnt3 hb2
        refine g_iload (pc' := 908) C dL_plans_906 rfl rfl ?_
        refine g_iload (pc' := 910) C dL_plans_908 rfl rfl ?_
        refine g_ior (pc' := 911) C dL_plans_910 rfl ?_
        rw [o1]
        refine g_goto (tgt := 916) C dL_plans_911 (by decide) ?_
        refine g_imulN (pc' := 917) C dL_plans_916 rfl ?_
        refine g_iaddN (pc' := 918) C dL_plans_917 rfl ?_
        refine g_iast (pc' := 919) C (4 * h + 3) rfl (by show _ < 64; omega) dL_plans_918 (al13 rfl) (fun _ => rfl) rfl rfl ?_
        have S2 : YS (fun _ => False) z nw (upI J 13 20 h (J 13 20 h ||| nI b)) ((upI I 13 1 (4 * h + 3) (nI (mh J h + 16 * (ntN J h ||| b)))) 13) := by
          rw [upI_13]
          exact S.y.nt hh o2 (by rw [ent, o1])
        have hO2 : Oth I (upI I 13 1 (4 * h + 3) (nI (mh J h + 16 * (ntN J h ||| b)))) := Oth.rf.up
        generalize (upI I 13 1 (4 * h + 3) (nI (mh J h + 16 * (ntN J h ||| b)))) = I2 at S2 hO2 ⊢
        exact G_pick [0, 1, 2, 3, 4, 5, 6, 7, 8, 9, 10, 11, 12, 13, 14, 15, 16, 17, 18, 19] rfl (tail I2 _ hO2 S2 (fun _ => by rw [if_neg (fun q => (hdue.mp g1).2.1 (j18.mp q)), (hdue.mp g1).2.2]) (fun q => absurd (hdue.mp g1).1 q))
    refine g_istore (pc' := 775) C dL_plans_773 rfl rfl ?_
    refine g_iload (pc' := 777) C dL_plans_775 rfl rfl ?_
    refine g_aload_n (pc' := 778) C dL_plans_777 rfl rfl ?_
    refine g_bipush (v := nI 8) (pc' := 780) C dL_plans_778 (by decide) rfl ?_
    refine g_iload (pc' := 782) C dL_plans_780 rfl rfl ?_
    refine g_imulN (pc' := 783) C dL_plans_782 rfl ?_
    refine g_iconst (v := nI 2) (pc' := 784) C dL_plans_783 (by decide) rfl ?_
    refine g_iaddN (pc' := 785) C dL_plans_784 rfl ?_
    refine g_iald (pc' := 786) C (8 * (mm J h) + 2) rfl (by show _ < 64; omega) dL_plans_785 (al13 rfl) rfl rfl rfl ?_
    rw [m2]
    refine g_icmp_ne (tgt := 793) (pc' := 789) C dL_plans_786 (by decide) rfl (fun c1 => ?_) (fun c1 => ?_)
    ·
      have g1 : ¬ nI p = J 13 8 (mm J h) := c1
      refine g_iload (pc' := 795) C dL_plans_793 rfl rfl ?_
      refine g_aload_n (pc' := 796) C dL_plans_795 rfl rfl ?_
      refine g_bipush (v := nI 8) (pc' := 798) C dL_plans_796 (by decide) rfl ?_
      refine g_iload (pc' := 800) C dL_plans_798 rfl rfl ?_
      refine g_imulN (pc' := 801) C dL_plans_800 rfl ?_
      refine g_iconst (v := nI 3) (pc' := 802) C dL_plans_801 (by decide) rfl ?_
      refine g_iaddN (pc' := 803) C dL_plans_802 rfl ?_
      refine g_iald (pc' := 804) C (8 * (mm J h) + 3) rfl (by show _ < 64; omega) dL_plans_803 (al13 rfl) rfl rfl rfl ?_
      rw [m3]
      refine g_icmp_ne (tgt := 811) (pc' := 807) C dL_plans_804 (by decide) rfl (fun c2 => ?_) (fun c2 => ?_)
      ·
        have g2 : ¬ nI p = J 13 9 (mm J h) := c2
        refine g_iconst (v := nI 0) (pc' := 812) C dL_plans_811 (by decide) rfl ?_
        refine g_istore (pc' := 814) C dL_plans_812 rfl rfl ?_
        refine g_iload (pc' := 816) C dL_plans_814 rfl rfl ?_
        refine g_if_ne (tgt := 824) (pc' := 819) C dL_plans_816 (by decide) rfl (fun c3 => absurd (by decide) c3) (fun c3 => ?_)
        refine g_ldc (v := (-100002)) (pc' := 821) C kL_43 dL_plans_819 rfl ?_
        refine g_goto (tgt := 862) C dL_plans_821 (by decide) ?_
        exact G_pick [0, 1, 2, 3, 4, 5, 6, 7, 8, 9, 10, 11, 12, 13, 14, 15, 16, 17] rfl (A862 0 (-100002) (by omega) (Or.inl ⟨rfl, by rw [hK, if_pos ⟨fun e => g1 e.symm, fun e => g2 e.symm⟩]⟩))
      ·
        have g2 : nI p = J 13 9 (mm J h) := c2
        refine g_iconst (v := nI 2) (pc' := 808) C dL_plans_807 (by decide) rfl ?_
        refine g_goto (tgt := 812) C dL_plans_808 (by decide) ?_
        refine g_istore (pc' := 814) C dL_plans_812 rfl rfl ?_
        refine g_iload (pc' := 816) C dL_plans_814 rfl rfl ?_
        refine g_if_ne (tgt := 824) (pc' := 819) C dL_plans_816 (by decide) rfl (fun c4 => ?_) (fun c4 => absurd c4 (by decide))
        refine g_aload (pc' := 826) C dL_plans_824 rfl rfl ?_
        refine g_iconst (v := nI 4) (pc' := 827) C dL_plans_826 (by decide) rfl ?_
        refine g_iload (pc' := 829) C dL_plans_827 rfl rfl ?_
        refine g_imulN (pc' := 830) C dL_plans_829 rfl ?_
        refine g_iald (pc' := 831) C (4 * h) rfl (by show _ < 64; omega) dL_plans_830 (al13 rfl) rfl rfl rfl ?_
        rw [(S.y.rS hh)]
        refine g_if_le (tgt := 839) (pc' := 834) C dL_plans_831 (by decide) rfl (fun c5 => ?_) (fun c5 => ?_)
        ·
          have g3 : J 13 14 h = 0 := by
            rw [e14] at c5 ⊢
            have := (nI_leI (a := hsN J h) (b := 0) (by omega) (by omega)).mp (by rw [nI_0]; exact c5)
            rw [show hsN J h = 0 by omega, nI_0]
          refine g_aload (pc' := 841) C dL_plans_839 rfl rfl ?_
          refine g_iconst (v := nI 4) (pc' := 842) C dL_plans_841 (by decide) rfl ?_
          refine g_iload (pc' := 844) C dL_plans_842 rfl rfl ?_
          refine g_imulN (pc' := 845) C dL_plans_844 rfl ?_
          refine g_iconst (v := nI 2) (pc' := 846) C dL_plans_845 (by decide) rfl ?_
          refine g_iaddN (pc' := 847) C dL_plans_846 rfl ?_
          refine g_iald (pc' := 848) C (4 * h + 2) rfl (by show _ < 64; omega) dL_plans_847 (al13 rfl) rfl rfl rfl ?_
          rw [(S.y.rF X hh)]
          refine g_aload (pc' := 850) C dL_plans_848 rfl rfl ?_
          refine g_iconst (v := nI 2) (pc' := 851) C dL_plans_850 (by decide) rfl ?_
          refine g_iald (pc' := 852) C (2) rfl (by show 2 < 3; omega) dL_plans_851 (al13 rfl) rfl rfl rfl ?_
          rw [S.y.q2]
          refine g_isub (pc' := 853) C dL_plans_852 rfl ?_
          refine g_iconst (v := nI 3) (pc' := 854) C dL_plans_853 (by decide) rfl ?_
          refine g_icmp_le (tgt := 861) (pc' := 857) C dL_plans_854 (by decide) rfl (fun c6 => ?_) (fun c6 => ?_)
          ·
            have g4 : nI (mfr J h) - nI nw ≤ nI 3 := c6
            refine g_iconst (v := nI 0) (pc' := 862) C dL_plans_861 (by decide) rfl ?_
            exact G_pick [0, 1, 2, 3, 4, 5, 6, 7, 8, 9, 10, 11, 12, 13, 14, 15, 16, 17] rfl (A862 2 (nI 0) (by omega) (Or.inr (Or.inr (Or.inl ⟨rfl, by rw [hK, if_neg (fun q => q.2 g2.symm), if_pos g3], (ah_3 (by omega) (by omega)).mp g4⟩))))
          ·
            have g4 : ¬ nI (mfr J h) - nI nw ≤ nI 3 := c6
            refine g_iconst (v := nI 1) (pc' := 858) C dL_plans_857 (by decide) rfl ?_
            refine g_goto (tgt := 862) C dL_plans_858 (by decide) ?_
            exact G_pick [0, 1, 2, 3, 4, 5, 6, 7, 8, 9, 10, 11, 12, 13, 14, 15, 16, 17] rfl (A862 2 (nI 1) (by omega) (Or.inr (Or.inr (Or.inr ⟨rfl, by rw [hK, if_neg (fun q => q.2 g2.symm), if_pos g3], by rw [← ah_3 (by omega) (by omega)]; exact g4, by rw [if_neg (fun e => g1 e.symm)]; decide⟩))))
        ·
          have g3 : ¬ J 13 14 h = 0 := fun e => c5 (by rw [e]; decide)
          refine g_ldc (v := (-100003)) (pc' := 836) C kL_46 dL_plans_834 rfl ?_
          refine g_goto (tgt := 862) C dL_plans_836 (by decide) ?_
          exact G_pick [0, 1, 2, 3, 4, 5, 6, 7, 8, 9, 10, 11, 12, 13, 14, 15, 16, 17] rfl (A862 2 (-100003) (by omega) (Or.inr (Or.inl ⟨rfl, by rw [hK, if_neg (fun q => q.2 g2.symm), if_neg g3]⟩)))
    ·
      have g1 : nI p = J 13 8 (mm J h) := c1
      refine g_iconst (v := nI 1) (pc' := 790) C dL_plans_789 (by decide) rfl ?_
      refine g_goto (tgt := 812) C dL_plans_790 (by decide) ?_
      refine g_istore (pc' := 814) C dL_plans_812 rfl rfl ?_
      refine g_iload (pc' := 816) C dL_plans_814 rfl rfl ?_
      refine g_if_ne (tgt := 824) (pc' := 819) C dL_plans_816 (by decide) rfl (fun c7 => ?_) (fun c7 => absurd c7 (by decide))
      refine g_aload (pc' := 826) C dL_plans_824 rfl rfl ?_
      refine g_iconst (v := nI 4) (pc' := 827) C dL_plans_826 (by decide) rfl ?_
      refine g_iload (pc' := 829) C dL_plans_827 rfl rfl ?_
      refine g_imulN (pc' := 830) C dL_plans_829 rfl ?_
      refine g_iald (pc' := 831) C (4 * h) rfl (by show _ < 64; omega) dL_plans_830 (al13 rfl) rfl rfl rfl ?_
      rw [(S.y.rS hh)]
      refine g_if_le (tgt := 839) (pc' := 834) C dL_plans_831 (by decide) rfl (fun c8 => ?_) (fun c8 => ?_)
      ·
        have g3 : J 13 14 h = 0 := by
          rw [e14] at c8 ⊢
          have := (nI_leI (a := hsN J h) (b := 0) (by omega) (by omega)).mp (by rw [nI_0]; exact c8)
          rw [show hsN J h = 0 by omega, nI_0]
        refine g_aload (pc' := 841) C dL_plans_839 rfl rfl ?_
        refine g_iconst (v := nI 4) (pc' := 842) C dL_plans_841 (by decide) rfl ?_
        refine g_iload (pc' := 844) C dL_plans_842 rfl rfl ?_
        refine g_imulN (pc' := 845) C dL_plans_844 rfl ?_
        refine g_iconst (v := nI 2) (pc' := 846) C dL_plans_845 (by decide) rfl ?_
        refine g_iaddN (pc' := 847) C dL_plans_846 rfl ?_
        refine g_iald (pc' := 848) C (4 * h + 2) rfl (by show _ < 64; omega) dL_plans_847 (al13 rfl) rfl rfl rfl ?_
        rw [(S.y.rF X hh)]
        refine g_aload (pc' := 850) C dL_plans_848 rfl rfl ?_
        refine g_iconst (v := nI 2) (pc' := 851) C dL_plans_850 (by decide) rfl ?_
        refine g_iald (pc' := 852) C (2) rfl (by show 2 < 3; omega) dL_plans_851 (al13 rfl) rfl rfl rfl ?_
        rw [S.y.q2]
        refine g_isub (pc' := 853) C dL_plans_852 rfl ?_
        refine g_iconst (v := nI 3) (pc' := 854) C dL_plans_853 (by decide) rfl ?_
        refine g_icmp_le (tgt := 861) (pc' := 857) C dL_plans_854 (by decide) rfl (fun c9 => ?_) (fun c9 => ?_)
        ·
          have g4 : nI (mfr J h) - nI nw ≤ nI 3 := c9
          refine g_iconst (v := nI 0) (pc' := 862) C dL_plans_861 (by decide) rfl ?_
          exact G_pick [0, 1, 2, 3, 4, 5, 6, 7, 8, 9, 10, 11, 12, 13, 14, 15, 16, 17] rfl (A862 1 (nI 0) (by omega) (Or.inr (Or.inr (Or.inl ⟨rfl, by rw [hK, if_neg (fun q => q.1 g1.symm), if_pos g3], (ah_3 (by omega) (by omega)).mp g4⟩))))
        ·
          have g4 : ¬ nI (mfr J h) - nI nw ≤ nI 3 := c9
          refine g_iconst (v := nI 1) (pc' := 858) C dL_plans_857 (by decide) rfl ?_
          refine g_goto (tgt := 862) C dL_plans_858 (by decide) ?_
          exact G_pick [0, 1, 2, 3, 4, 5, 6, 7, 8, 9, 10, 11, 12, 13, 14, 15, 16, 17] rfl (A862 1 (nI 1) (by omega) (Or.inr (Or.inr (Or.inr ⟨rfl, by rw [hK, if_neg (fun q => q.1 g1.symm), if_pos g3], by rw [← ah_3 (by omega) (by omega)]; exact g4, by rw [if_pos g1.symm]; decide⟩))))
      ·
        have g3 : ¬ J 13 14 h = 0 := fun e => c8 (by rw [e]; decide)
        refine g_ldc (v := (-100003)) (pc' := 836) C kL_46 dL_plans_834 rfl ?_
        refine g_goto (tgt := 862) C dL_plans_836 (by decide) ?_
        exact G_pick [0, 1, 2, 3, 4, 5, 6, 7, 8, 9, 10, 11, 12, 13, 14, 15, 16, 17] rfl (A862 1 (-100003) (by omega) (Or.inr (Or.inl ⟨rfl, by rw [hK, if_neg (fun q => q.1 g1.symm), if_neg g3]⟩)))
  refine g_iload_n (pc' := 404) C dL_plans_403 rfl rfl ?_
  refine g_iconst (v := nI 1) (pc' := 405) C dL_plans_404 (by decide) rfl ?_
  refine g_icmp_neN (tgt := 660) (pc' := 408) C (by omega) (by omega) dL_plans_405 (by decide) rfl (fun c1 => ?_) (fun c1 => absurd c1 (by decide))
  refine g_iload_n (pc' := 661) C dL_plans_660 rfl rfl ?_
  refine g_iconst (v := nI 2) (pc' := 662) C dL_plans_661 (by decide) rfl ?_
  refine g_icmp_neN (tgt := 733) (pc' := 665) C (by omega) (by omega) dL_plans_662 (by decide) rfl (fun c2 => ?_) (fun c2 => absurd c2 (by decide))
  refine g_iload_n (pc' := 734) C dL_plans_733 rfl rfl ?_
  refine g_iconst (v := nI 4) (pc' := 735) C dL_plans_734 (by decide) rfl ?_
  refine g_ishr (pc' := 736) C dL_plans_735 rfl ?_
  refine g_bipush (v := nI 8) (pc' := 738) C dL_plans_736 (by decide) rfl ?_
  refine g_callS (pc' := 741) (As := [.int (v >>> (nI 4 &&& 31)), .int (nI 8)]) (S := []) C cs_L_65 (w_low (b := 8) (by omega) (by omega)) dL_plans_738 ⟨rfl, by decide +kernel, by decide +kernel, (by decide +kernel : (parseMethodDescriptor yL_low.desc).map (fun d => d.parameters.length) = some 2)⟩ ⟨⟨Nat.le_of_ble_eq_true rfl, Nat.le_of_ble_eq_true rfl⟩, rfl, rfl⟩ rfl (Nat.le_of_ble_eq_true rfl) ⟨Nat.zero_le _, Nat.zero_le _⟩ rfl (fun v1 I1 P1 q => ?_)
  obtain ⟨rfl, q1, q2⟩ := q
  rw [q1, q2]
  obtain ⟨t0, ht0, et0⟩ : ∃ r, r < 8 ∧ lowN (v >>> (nI 4 &&& 31)) 8 = r := ⟨_, lowN_lt (by omega), rfl⟩
  rw [et0]
  refine g_if_ne (tgt := 755) (pc' := 744) C dL_plans_741 (by decide) rfl (fun c3 => ?_) (fun c3 => ?_)
  ·
    skip
    refine g_aload_n (pc' := 756) C dL_plans_755 rfl rfl ?_
    refine g_bipush (v := nI 8) (pc' := 758) C dL_plans_756 (by decide) rfl ?_
    refine g_iload (pc' := 760) C dL_plans_758 rfl rfl ?_
    refine g_imulN (pc' := 761) C dL_plans_760 rfl ?_
    refine g_iconst (v := nI 2) (pc' := 762) C dL_plans_761 (by decide) rfl ?_
    refine g_iaddN (pc' := 763) C dL_plans_762 rfl ?_
    refine g_iload_n (pc' := 764) C dL_plans_763 rfl rfl ?_
    refine g_bipush (v := nI 6) (pc' := 766) C dL_plans_764 (by decide) rfl ?_
    refine g_ishr (pc' := 767) C dL_plans_766 rfl ?_
    refine g_iconst (v := nI 2) (pc' := 768) C dL_plans_767 (by decide) rfl ?_
    refine g_callS (pc' := 771) (As := [.int (v >>> (nI 6 &&& 31)), .int (nI 2)]) (S := [.int (nI (8 * (mm J h) + 2)), .ref ((Kg K).2.2 13 0)]) C cs_L_65 (w_low (b := 2) (by omega) (by omega)) dL_plans_768 ⟨rfl, by decide +kernel, by decide +kernel, (by decide +kernel : (parseMethodDescriptor yL_low.desc).map (fun d => d.parameters.length) = some 2)⟩ ⟨⟨Nat.le_of_ble_eq_true rfl, Nat.le_of_ble_eq_true rfl⟩, rfl, rfl⟩ rfl (Nat.le_of_ble_eq_true rfl) ⟨Nat.zero_le _, Nat.zero_le _⟩ rfl (fun v1 I1 P1 q => ?_)
    obtain ⟨rfl, q1, q2⟩ := q
    rw [q1, q2]
    obtain ⟨e0, he0, ee0⟩ : ∃ r, r < 2 ∧ lowN (v >>> (nI 6 &&& 31)) 2 = r := ⟨_, lowN_lt (by omega), rfl⟩
    rw [ee0]
    refine g_iaddN (pc' := 772) C dL_plans_771 rfl ?_
    rcases (show e0 = 0 ∨ e0 = 1 by omega) with rfl | rfl
    · refine g_iald (pc' := 773) C (8 * mm J h + 2 + 0) rfl (by show _ < 64; omega) dL_plans_772 (al13 rfl) rfl rfl rfl ?_
      rw [show I 13 0 (8 * mm J h + 2 + 0) = nI (mf J (mm J h)) from m2.trans e8]
      exact G_pick [0, 1, 2, 3, 4, 5, 6, 7, 8, 9, 10, 11, 12, 13, 14, 15] rfl (A773 _ e86)
    · refine g_iald (pc' := 773) C (8 * mm J h + 2 + 1) rfl (by show _ < 64; omega) dL_plans_772 (al13 rfl) rfl rfl rfl ?_
      rw [show I 13 0 (8 * mm J h + 2 + 1) = nI p9 from m3.trans e9]
      exact G_pick [0, 1, 2, 3, 4, 5, 6, 7, 8, 9, 10, 11, 12, 13, 14, 15] rfl (A773 _ e96)
  ·
    skip
    refine g_iload_n (pc' := 745) C dL_plans_744 rfl rfl ?_
    refine g_iconst (v := nI 5) (pc' := 746) C dL_plans_745 (by decide) rfl ?_
    refine g_ishr (pc' := 747) C dL_plans_746 rfl ?_
    refine g_bipush (v := nI 6) (pc' := 749) C dL_plans_747 (by decide) rfl ?_
    refine g_callS (pc' := 752) (As := [.int (v >>> (nI 5 &&& 31)), .int (nI 6)]) (S := []) C cs_L_65 (w_low (b := 6) (by omega) (by omega)) dL_plans_749 ⟨rfl, by decide +kernel, by decide +kernel, (by decide +kernel : (parseMethodDescriptor yL_low.desc).map (fun d => d.parameters.length) = some 2)⟩ ⟨⟨Nat.le_of_ble_eq_true rfl, Nat.le_of_ble_eq_true rfl⟩, rfl, rfl⟩ rfl (Nat.le_of_ble_eq_true rfl) ⟨Nat.zero_le _, Nat.zero_le _⟩ rfl (fun v1 I1 P1 q => ?_)
    obtain ⟨rfl, q1, q2⟩ := q
    rw [q1, q2]
    obtain ⟨p, hp, ep⟩ : ∃ r, r < 6 ∧ lowN (v >>> (nI 5 &&& 31)) 6 = r := ⟨_, lowN_lt (by omega), rfl⟩
    rw [ep]
    refine g_goto (tgt := 773) C dL_plans_752 (by decide) ?_
    exact G_pick [0, 1, 2, 3, 4, 5, 6, 7, 8, 9, 10, 11, 12, 13, 14, 15] rfl (A773 _ hp)
theorem w_pl_plan {l : Launch} (hfl : l.stackTraces = false) {g : wG} {z : wZ} {I : wI} {P : wP} {O : wO} {nw : Nat} {J : wI} {v : Int32} (S : Stt z nw I P J) (hz : 0 < z.1) (hn9 : nw ≤ 900) (sz : Nat) : XT l yL_plans (.code yL_plans cL_plans 20 (some .boolean)) { frames := 8, cells := 2, slots := 14, locals := 150 } g z sz [.ref (g.2.2 0 0), .int (nI 0), .int v, .ref (g.2.2 13 0), .ref (g.2.2 13 1), .ref (g.2.2 13 2), .ref (g.2.2 13 3), .ref (g.2.2 13 4), .ref (g.2.2 13 5), .ref (g.2.2 13 6)] I P O 2 14 (oP g z sz nw O) (fun _ => False) := by
  refine XT.of (own := RL) rfl (by decide +kernel) hfl (Nat.le_of_ble_eq_true rfl) rfl (fun K C hl hg hR hT => ?_)
  subst hl
  subst hg
  exact l_plan hfl C hR S hz hn9
theorem w_pl_move {l : Launch} (hfl : l.stackTraces = false) {g : wG} {z : wZ} {I : wI} {P : wP} {O : wO} {nw : Nat} {J : wI} {v : Int32} (S : Stt z nw I P J) (hz : 0 < z.1) (hn9 : nw ≤ 900) (sz : Nat) : XT l yL_plans (.code yL_plans cL_plans 20 (some .boolean)) { frames := 8, cells := 2, slots := 14, locals := 150 } g z sz [.ref (g.2.2 0 0), .int (nI 1), .int v, .ref (g.2.2 13 0), .ref (g.2.2 13 1), .ref (g.2.2 13 2), .ref (g.2.2 13 3), .ref (g.2.2 13 4), .ref (g.2.2 13 5), .ref (g.2.2 13 6)] I P O 2 14 (oP g z sz nw O) (fun _ => False) := by
  refine XT.of (own := RL) rfl (by decide +kernel) hfl (Nat.le_of_ble_eq_true rfl) rfl (fun K C hl hg hR hT => ?_)
  subst hl
  subst hg
  exact l_move hfl C hR S hz hn9
theorem w_pl_drop {l : Launch} (hfl : l.stackTraces = false) {g : wG} {z : wZ} {I : wI} {P : wP} {O : wO} {nw : Nat} {J : wI} {v : Int32} (S : Stt z nw I P J) (hz : 0 < z.1) (hn9 : nw ≤ 900) (sz : Nat) : XT l yL_plans (.code yL_plans cL_plans 20 (some .boolean)) { frames := 8, cells := 2, slots := 14, locals := 150 } g z sz [.ref (g.2.2 0 0), .int (nI 2), .int v, .ref (g.2.2 13 0), .ref (g.2.2 13 1), .ref (g.2.2 13 2), .ref (g.2.2 13 3), .ref (g.2.2 13 4), .ref (g.2.2 13 5), .ref (g.2.2 13 6)] I P O 2 14 (oP g z sz nw O) (fun _ => False) := by
  refine XT.of (own := RL) rfl (by decide +kernel) hfl (Nat.le_of_ble_eq_true rfl) rfl (fun K C hl hg hR hT => ?_)
  subst hl
  subst hg
  exact l_drop hfl C hR S hz hn9
theorem w_pl_notice {l : Launch} (hfl : l.stackTraces = false) {g : wG} {z : wZ} {I : wI} {P : wP} {O : wO} {nw : Nat} {J : wI} {v : Int32} (S : Stt z nw I P J) (hz : 0 < z.1) (hn9 : nw ≤ 900) (sz : Nat) : XT l yL_plans (.code yL_plans cL_plans 20 (some .boolean)) { frames := 8, cells := 2, slots := 14, locals := 150 } g z sz [.ref (g.2.2 0 0), .int (nI 3), .int v, .ref (g.2.2 13 0), .ref (g.2.2 13 1), .ref (g.2.2 13 2), .ref (g.2.2 13 3), .ref (g.2.2 13 4), .ref (g.2.2 13 5), .ref (g.2.2 13 6)] I P O 2 14 (oP g z sz nw O) (fun _ => False) := by
  refine XT.of (own := RL) rfl (by decide +kernel) hfl (Nat.le_of_ble_eq_true rfl) rfl (fun K C hl hg hR hT => ?_)
  subst hl
  subst hg
  exact l_notice hfl C hR S hz hn9
end WLplans
