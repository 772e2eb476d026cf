section WLhour
theorem isOp_nI {s : Nat} (h : s < 2 ^ 31) : isOp (nI s) = true ↔ s < 2 := by
  unfold isOp
  have h0 : nI s = 0 ↔ s = 0 := by rw [← nI_0]; exact nI_eq h (by omega)
  have h1 : nI s = 1 ↔ s = 1 := by rw [← nI1']; exact nI_eq h (by omega)
  simp only [Bool.or_eq_true, decide_eq_true_eq, h0, h1]
  omega
theorem mOp_st {ex : Nat → Prop} {z : wZ} {nw m : Nat} {J : wI} {L : wR} (S : YS ex z nw J L) (hm : m < z.1) : mOp J m = true ↔ stN J m < 2 := by
  obtain ⟨-, -, -, -, -, -, -, a7, a8, -⟩ := S.m.2.1 m hm
  unfold mOp
  rw [a7]
  exact isOp_nI (by omega)
theorem nt_3 {ex : Nat → Prop} {z : wZ} {nw h : Nat} {J : wI} {L : wR} (S : YS ex z nw J L) (hh : h < z.2) : J 13 20 h = 3 ↔ ntN J h = 3 := by
  obtain ⟨-, -, -, -, -, -, -, -, a8, a9, -⟩ := S.a.2 h hh
  rw [a8, show (3 : Int32) = nI 3 from by decide, nI_eq (by omega) (by omega)]
theorem eAS_yes {m : Nat} {J : wI} (h : J 13 6 m = 3) : eAS m J = upI J 13 12 m (J 13 12 m + nI 1) := by unfold eAS; rw [if_pos h]; rfl
theorem eAS_no {m : Nat} {J : wI} (h : ¬ J 13 6 m = 3) : eAS m J = upI J 13 12 m (J 13 12 m + nI 0) := by unfold eAS; rw [if_neg h]; rfl
set_option maxRecDepth 20000 in
theorem w_hour {l : Launch} {g : wG} {z : wZ} {I : wI} {P : wP} {O : wO} {nw : Nat} {J : wI} (X : MI z.1 z.2 J) (S : YS (fun _ => False) z nw J (I 13)) (hnw : nw + 1 ≤ 930) : RT l yL_hour cL_hour 7 ((some .int)) { frames := 0, cells := 0, slots := 0, locals := 0 } g z [.ref (g.2.2 13 0), .ref (g.2.2 13 1), .ref (g.2.2 13 6)] I P O (fun v I' P' => v = some (.int (mEn z.1 z.2 J).2) ∧ P' = P ∧ Oth I I' ∧ YS (fun _ => False) z (nw + 1) (mEn z.1 z.2 J).1 (I' 13)) := by
  refine RT.of (own := RL) rfl (by decide +kernel) (Nat.le_of_ble_eq_true rfl) rfl (fun K C hl hg hR => ?_)
  subst hl
  subst hg
  have hM8 := S.M8
  have hN16 := S.N16
  have loopD : ∀ (n k : Nat) (x : Int32) (I2 J2 : wI), k + n = z.1 → Oth I I2 → YS (fun _ => False) z (nw + 1) J2 (I2 13) → (some (Value.int x) = some (Value.int (mEn z.1 z.2 J).2) ∧ eCL n k J2 = (mEn z.1 z.2 J).1) → G K z I2 P O 0 0 208 [(0, .ref ((Kg K).2.2 13 0)), (1, .ref ((Kg K).2.2 13 1)), (2, .ref ((Kg K).2.2 13 6)), (3, .int x), (4, .int (nI k))] [] := by
    intro n
    induction n with
    | zero =>
      intro k x I2 J2 hk hO S2 hT
      refine g_iload (pc' := 210) C dL_hour_208 rfl rfl ?_
      refine g_aload_n (pc' := 211) C dL_hour_210 rfl rfl ?_
      refine g_iconst (v := nI 0) (pc' := 212) C dL_hour_211 (by decide) rfl ?_
      refine g_iald (pc' := 213) C (0) rfl (by show 0 < 3; omega) dL_hour_212 (al13 rfl) rfl rfl rfl ?_
      rw [S2.q0]
      refine g_icmp_geN (tgt := 267) (pc' := 216) C (by omega) (by omega) dL_hour_213 (by decide) rfl (fun c1 => ?_) (fun c1 => absurd c1 (by omega))
      refine g_iload_n (pc' := 268) C dL_hour_267 rfl rfl ?_
      exact g_iret C hR dL_hour_268 ⟨hT.1, rfl, hO, by rw [← hT.2]; exact S2⟩
    | succ n ih =>
      intro k x I2 J2 hk hO S2 hT
      have hkM : k < z.1 := by omega
      obtain ⟨a0, -, -, -, -, -, a6, a7, a8, -⟩ := S2.m.2.1 k hkM
      have a0n : I2 13 0 (8 * k) = nI (stN J2 k) := a0.trans a7
      refine g_iload (pc' := 210) C dL_hour_208 rfl rfl ?_
      refine g_aload_n (pc' := 211) C dL_hour_210 rfl rfl ?_
      refine g_iconst (v := nI 0) (pc' := 212) C dL_hour_211 (by decide) rfl ?_
      refine g_iald (pc' := 213) C (0) rfl (by show 0 < 3; omega) dL_hour_212 (al13 rfl) rfl rfl rfl ?_
      rw [S2.q0]
      refine g_icmp_geN (tgt := 267) (pc' := 216) C (by omega) (by omega) dL_hour_213 (by decide) rfl (fun c1 => absurd c1 (by omega)) (fun c1 => ?_)
      refine g_aload_n (pc' := 217) C dL_hour_216 rfl rfl ?_
      refine g_bipush (v := nI 8) (pc' := 219) C dL_hour_217 (by decide) rfl ?_
      refine g_iload (pc' := 221) C dL_hour_219 rfl rfl ?_
      refine g_imulN (pc' := 222) C dL_hour_221 rfl ?_
      refine g_aload_n (pc' := 223) C dL_hour_222 rfl rfl ?_
      refine g_bipush (v := nI 8) (pc' := 225) C dL_hour_223 (by decide) rfl ?_
      refine g_iload (pc' := 227) C dL_hour_225 rfl rfl ?_
      refine g_imulN (pc' := 228) C dL_hour_227 rfl ?_
      refine g_iald (pc' := 229) C (8 * k) rfl (by show _ < 64; omega) dL_hour_228 (al13 rfl) rfl rfl rfl ?_
      rw [a0n]
      refine g_iconst (v := nI 2) (pc' := 230) C dL_hour_229 (by decide) rfl ?_
      refine g_icmp_geN (tgt := 253) (pc' := 233) C (by omega) (by omega) dL_hour_230 (by decide) rfl (fun c2 => ?_) (fun c2 => ?_)
      ·
        refine g_aload_n (pc' := 254) C dL_hour_253 rfl rfl ?_
        refine g_bipush (v := nI 8) (pc' := 256) C dL_hour_254 (by decide) rfl ?_
        refine g_iload (pc' := 258) C dL_hour_256 rfl rfl ?_
        refine g_imulN (pc' := 259) C dL_hour_258 rfl ?_
        refine g_iald (pc' := 260) C (8 * k) rfl (by show _ < 64; omega) dL_hour_259 (al13 rfl) rfl rfl rfl ?_
        rw [a0n]
        refine g_iast (pc' := 261) C (8 * k) rfl (by show _ < 64; omega) dL_hour_260 (al13 rfl) (fun _ => rfl) rfl rfl ?_
        have S3 : YS (fun _ => False) z (nw + 1) (eCS k J2) ((upI I2 13 0 (8 * k) (nI (stN J2 k))) 13) := by
          rw [upI_13]
          unfold eCS
          rw [if_neg (fun q => absurd ((mOp_st S2 hkM).mp q.1) (by omega))]
          have e5 := S2.st hkM (v := nI (stN J2 k)) (by rw [nI_clamp (by omega)]) (by rw [nI_clamp (by omega)]; exact a8)
          rw [a7]; exact e5
        have hO3 : Oth I (upI I2 13 0 (8 * k) (nI (stN J2 k))) := hO.up
        generalize (upI I2 13 0 (8 * k) (nI (stN J2 k))) = I3 at S3 hO3 ⊢
        refine g_iinc (pc' := 264) C dL_hour_261 rfl (iiN _) rfl rfl ?_
        refine g_goto (tgt := 208) C dL_hour_264 (by decide) ?_
        exact G_pick [0, 1, 2, 3, 4] rfl (ih (k + 1) x I3 (eCS k J2) (by omega) hO3 S3 hT)
      ·
        refine g_aload_n (pc' := 234) C dL_hour_233 rfl rfl ?_
        refine g_bipush (v := nI 8) (pc' := 236) C dL_hour_234 (by decide) rfl ?_
        refine g_iload (pc' := 238) C dL_hour_236 rfl rfl ?_
        refine g_imulN (pc' := 239) C dL_hour_238 rfl ?_
        refine g_bipush (v := nI 6) (pc' := 241) C dL_hour_239 (by decide) rfl ?_
        refine g_iaddN (pc' := 242) C dL_hour_241 rfl ?_
        refine g_iald (pc' := 243) C (8 * k + 6) rfl (by show _ < 64; omega) dL_hour_242 (al13 rfl) rfl rfl rfl ?_
        rw [a6]
        refine g_aload_n (pc' := 244) C dL_hour_243 rfl rfl ?_
        refine g_iconst (v := nI 2) (pc' := 245) C dL_hour_244 (by decide) rfl ?_
        refine g_iald (pc' := 246) C (2) rfl (by show 2 < 3; omega) dL_hour_245 (al13 rfl) rfl rfl rfl ?_
        rw [S2.q2]
        refine g_icmp_gt (tgt := 253) (pc' := 249) C dL_hour_246 (by decide) rfl (fun c3 => ?_) (fun c3 => ?_)
        ·
          have c3 : nI (nw + 1) < J2 13 12 k := c3
          refine g_aload_n (pc' := 254) C dL_hour_253 rfl rfl ?_
          refine g_bipush (v := nI 8) (pc' := 256) C dL_hour_254 (by decide) rfl ?_
          refine g_iload (pc' := 258) C dL_hour_256 rfl rfl ?_
          refine g_imulN (pc' := 259) C dL_hour_258 rfl ?_
          refine g_iald (pc' := 260) C (8 * k) rfl (by show _ < 64; omega) dL_hour_259 (al13 rfl) rfl rfl rfl ?_
          rw [a0n]
          refine g_iast (pc' := 261) C (8 * k) rfl (by show _ < 64; omega) dL_hour_260 (al13 rfl) (fun _ => rfl) rfl rfl ?_
          have S3 : YS (fun _ => False) z (nw + 1) (eCS k J2) ((upI I2 13 0 (8 * k) (nI (stN J2 k))) 13) := by
            rw [upI_13]
            unfold eCS
            rw [if_neg (fun q => q.2 (by rw [S2.jn]; exact c3))]
            have e5 := S2.st hkM (v := nI (stN J2 k)) (by rw [nI_clamp (by omega)]) (by rw [nI_clamp (by omega)]; exact a8)
            rw [a7]; exact e5
          have hO3 : Oth I (upI I2 13 0 (8 * k) (nI (stN J2 k))) := hO.up
          generalize (upI I2 13 0 (8 * k) (nI (stN J2 k))) = I3 at S3 hO3 ⊢
          refine g_iinc (pc' := 264) C dL_hour_261 rfl (iiN _) rfl rfl ?_
          refine g_goto (tgt := 208) C dL_hour_264 (by decide) ?_
          exact G_pick [0, 1, 2, 3, 4] rfl (ih (k + 1) x I3 (eCS k J2) (by omega) hO3 S3 hT)
        ·
          have c3 : ¬ nI (nw + 1) < J2 13 12 k := c3
          refine g_iconst (v := nI 5) (pc' := 250) C dL_hour_249 (by decide) rfl ?_
          refine g_goto (tgt := 260) C dL_hour_250 (by decide) ?_
          refine g_iast (pc' := 261) C (8 * k) rfl (by show _ < 64; omega) dL_hour_260 (al13 rfl) (fun _ => rfl) rfl rfl ?_
          have S3 : YS (fun _ => False) z (nw + 1) (eCS k J2) ((upI I2 13 0 (8 * k) (nI 5)) 13) := by
            rw [upI_13]
            unfold eCS
            rw [if_pos ⟨(mOp_st S2 hkM).mpr c2, fun q => c3 (by rw [← S2.jn]; exact q)⟩]
            exact S2.st hkM (v := 5) (by decide) (by decide)
          have hO3 : Oth I (upI I2 13 0 (8 * k) (nI 5)) := hO.up
          generalize (upI I2 13 0 (8 * k) (nI 5)) = I3 at S3 hO3 ⊢
          refine g_iinc (pc' := 264) C dL_hour_261 rfl (iiN _) rfl rfl ?_
          refine g_goto (tgt := 208) C dL_hour_264 (by decide) ?_
          exact G_pick [0, 1, 2, 3, 4] rfl (ih (k + 1) x I3 (eCS k J2) (by omega) hO3 S3 hT)
  have loopC : ∀ (n h : Nat) (x : Int32) (I2 J2 : wI), h + n = z.2 → Oth I I2 → MI z.1 z.2 J2 → YS (fun _ => False) z (nw + 1) J2 (I2 13) → (∀ I3 J3 y, Oth I I3 → YS (fun _ => False) z (nw + 1) J3 (I3 13) → eBL n h (J2, x) = (J3, y) → G K z I3 P O 0 0 205 [(0, .ref ((Kg K).2.2 13 0)), (1, .ref ((Kg K).2.2 13 1)), (2, .ref ((Kg K).2.2 13 6)), (3, .int y), (4, .int (nI (z.2)))] []) → G K z I2 P O 0 0 58 [(0, .ref ((Kg K).2.2 13 0)), (1, .ref ((Kg K).2.2 13 1)), (2, .ref ((Kg K).2.2 13 6)), (3, .int x), (4, .int (nI h))] [] := by
    intro n
    induction n with
    | zero =>
      intro h x I2 J2 hk hO X2 S2 kk
      have hz : h = z.2 := by omega
      subst hz
      refine g_iload (pc' := 60) C dL_hour_58 rfl rfl ?_
      refine g_aload_n (pc' := 61) C dL_hour_60 rfl rfl ?_
      refine g_iconst (v := nI 1) (pc' := 62) C dL_hour_61 (by decide) rfl ?_
      refine g_iald (pc' := 63) C (1) rfl (by show 1 < 3; omega) dL_hour_62 (al13 rfl) rfl rfl rfl ?_
      rw [S2.q1]
      refine g_icmp_geN (tgt := 205) (pc' := 66) C (by omega) (by omega) dL_hour_63 (by decide) rfl (fun c1 => ?_) (fun c1 => absurd c1 (by omega))
      exact kk I2 J2 x hO S2 rfl
    | succ n ih =>
      intro h x I2 J2 hk hO X2 S2 kk
      have hh : h < z.2 := by omega
      have hm12 : mm J2 h < 12 := X2.mt2 hh
      have hmM := X2.mtM hh
      have hm8 : mm J2 h < 8 := Nat.lt_of_lt_of_le hmM hM8
      have hr4 := S2.rm4 hh
      have hs4 := S2.sp4 hh
      have hlt := eA_lt hm12 hr4 hs4
      have hH4 := X2.hr4 hh
      have hnt3 := S2.nt3 hh
      have hHlt := eH_lt hH4 hnt3
      obtain ⟨e18, hf9⟩ := X2.fr hh
      have e19 := X2.hr hh
      obtain ⟨a0, -, -, -, -, -, a6, a7, a8, -⟩ := S2.m.2.1 (mm J2 h) hmM
      have a0n : I2 13 0 (8 * mm J2 h) = nI (stN J2 (mm J2 h)) := a0.trans a7
      have sum : J2 13 18 h + J2 13 19 h = J2 12 0 1 ↔ mfr J2 h + mh J2 h = nw + 1 := by
        rw [e18, e19, S2.jn, nI_add]
        exact nI_eq (by omega) (by omega)
      have no_ : ¬ (J2 13 14 h = 0 ∧ J2 13 18 h + J2 13 19 h = J2 12 0 1) → eBS h (J2, x) = (J2, x) := fun q => if_neg q
      have next : ∀ (I3 J3 : wI) (y : Int32), Oth I I3 → MI z.1 z.2 J3 → YS (fun _ => False) z (nw + 1) J3 (I3 13) → eBS h (J2, x) = (J3, y) → G K z I3 P O 0 0 199 [(0, .ref ((Kg K).2.2 13 0)), (1, .ref ((Kg K).2.2 13 1)), (2, .ref ((Kg K).2.2 13 6)), (3, .int y), (4, .int (nI h))] [] := by
        intro I3 J3 y hO3 X3 S3 e
        refine g_iinc (pc' := 202) C dL_hour_199 rfl (iiN _) rfl rfl ?_
        refine g_goto (tgt := 58) C dL_hour_202 (by decide) ?_
        refine G_pick [0, 1, 2, 3, 4] rfl (ih (h + 1) y I3 J3 (by omega) hO3 X3 S3 (fun I4 J4 y4 hO4 S4 e4 => kk I4 J4 y4 hO4 S4 ?_))
        show eBL n (h + 1) (eBS h (J2, x)) = _
        rw [e, e4]
      refine g_iload (pc' := 60) C dL_hour_58 rfl rfl ?_
      refine g_aload_n (pc' := 61) C dL_hour_60 rfl rfl ?_
      refine g_iconst (v := nI 1) (pc' := 62) C dL_hour_61 (by decide) rfl ?_
      refine g_iald (pc' := 63) C (1) rfl (by show 1 < 3; omega) dL_hour_62 (al13 rfl) rfl rfl rfl ?_
      rw [S2.q1]
      refine g_icmp_geN (tgt := 205) (pc' := 66) C (by omega) (by omega) dL_hour_63 (by decide) rfl (fun c1 => absurd c1 (by omega)) (fun c1 => ?_)
      refine g_aload_n (pc' := 67) C dL_hour_66 rfl rfl ?_
      refine g_iconst (v := nI 4) (pc' := 68) C dL_hour_67 (by decide) rfl ?_
      refine g_iload (pc' := 70) C dL_hour_68 rfl rfl ?_
      refine g_imulN (pc' := 71) C dL_hour_70 rfl ?_
      refine g_iconst (v := nI 1) (pc' := 72) C dL_hour_71 (by decide) rfl ?_
      refine g_iaddN (pc' := 73) C dL_hour_72 rfl ?_
      refine g_iald (pc' := 74) C (4 * h + 1) rfl (by show _ < 64; omega) dL_hour_73 (al13 rfl) rfl rfl rfl ?_
      rw [(S2.rA hh)]
      refine g_bipush (v := nI 16) (pc' := 76) C dL_hour_74 (by decide) rfl ?_
      refine g_iremN (r := mm J2 h) (pc' := 77) C (by omega) (by omega) (eA_m hm12 hr4) dL_hour_76 rfl ?_
      refine g_istore (pc' := 79) C dL_hour_77 rfl rfl ?_
      refine g_aload_n (pc' := 80) C dL_hour_79 rfl rfl ?_
      refine g_iconst (v := nI 4) (pc' := 81) C dL_hour_80 (by decide) rfl ?_
      refine g_iload (pc' := 83) C dL_hour_81 rfl rfl ?_
      refine g_imulN (pc' := 84) C dL_hour_83 rfl ?_
      refine g_iald (pc' := 85) C (4 * h) rfl (by show _ < 64; omega) dL_hour_84 (al13 rfl) rfl rfl rfl ?_
      rw [(S2.rS hh)]
      refine g_if_ne (tgt := 199) (pc' := 88) C dL_hour_85 (by decide) rfl (fun c2 => ?_) (fun c2 => ?_)
      ·
        have c2 : ¬ J2 13 14 h = 0 := c2
        exact G_pick [0, 1, 2, 3, 4] rfl (next I2 J2 x hO X2 S2 (no_ (fun q => c2 q.1)))
      ·
        have c2 : J2 13 14 h = 0 := c2
        refine g_aload_n (pc' := 89) C dL_hour_88 rfl rfl ?_
        refine g_iconst (v := nI 4) (pc' := 90) C dL_hour_89 (by decide) rfl ?_
        refine g_iload (pc' := 92) C dL_hour_90 rfl rfl ?_
        refine g_imulN (pc' := 93) C dL_hour_92 rfl ?_
        refine g_iconst (v := nI 2) (pc' := 94) C dL_hour_93 (by decide) rfl ?_
        refine g_iaddN (pc' := 95) C dL_hour_94 rfl ?_
        refine g_iald (pc' := 96) C (4 * h + 2) rfl (by show _ < 64; omega) dL_hour_95 (al13 rfl) rfl rfl rfl ?_
        rw [(S2.rF X2 hh)]
        refine g_aload_n (pc' := 97) C dL_hour_96 rfl rfl ?_
        refine g_iconst (v := nI 4) (pc' := 98) C dL_hour_97 (by decide) rfl ?_
        refine g_iload (pc' := 100) C dL_hour_98 rfl rfl ?_
        refine g_imulN (pc' := 101) C dL_hour_100 rfl ?_
        refine g_iconst (v := nI 3) (pc' := 102) C dL_hour_101 (by decide) rfl ?_
        refine g_iaddN (pc' := 103) C dL_hour_102 rfl ?_
        refine g_iald (pc' := 104) C (4 * h + 3) rfl (by show _ < 64; omega) dL_hour_103 (al13 rfl) rfl rfl rfl ?_
        rw [(S2.rH hh)]
        refine g_bipush (v := nI 16) (pc' := 106) C dL_hour_104 (by decide) rfl ?_
        refine g_iremN (r := mh J2 h) (pc' := 107) C (by omega) (by omega) (eH_h hH4) dL_hour_106 rfl ?_
        refine g_iaddN (pc' := 108) C dL_hour_107 rfl ?_
        refine g_aload_n (pc' := 109) C dL_hour_108 rfl rfl ?_
        refine g_iconst (v := nI 2) (pc' := 110) C dL_hour_109 (by decide) rfl ?_
        refine g_iald (pc' := 111) C (2) rfl (by show 2 < 3; omega) dL_hour_110 (al13 rfl) rfl rfl rfl ?_
        rw [S2.q2]
        refine g_icmp_neN (tgt := 199) (pc' := 114) C (by omega) (by omega) dL_hour_111 (by decide) rfl (fun c3 => ?_) (fun c3 => ?_)
        ·
          have c3 : ¬ mfr J2 h + mh J2 h = nw + 1 := c3
          exact G_pick [0, 1, 2, 3, 4] rfl (next I2 J2 x hO X2 S2 (no_ (fun q => c3 (sum.mp q.2))))
        ·
          have c3 : mfr J2 h + mh J2 h = nw + 1 := c3
          refine g_aload_n (pc' := 115) C dL_hour_114 rfl rfl ?_
          refine g_bipush (v := nI 8) (pc' := 117) C dL_hour_115 (by decide) rfl ?_
          refine g_iload (pc' := 119) C dL_hour_117 rfl rfl ?_
          refine g_imulN (pc' := 120) C dL_hour_119 rfl ?_
          refine g_iald (pc' := 121) C (8 * (mm J2 h)) rfl (by show _ < 64; omega) dL_hour_120 (al13 rfl) rfl rfl rfl ?_
          rw [a0n]
          refine g_iconst (v := nI 2) (pc' := 122) C dL_hour_121 (by decide) rfl ?_
          refine g_icmp_geN (tgt := 144) (pc' := 125) C (by omega) (by omega) dL_hour_122 (by decide) rfl (fun c4 => ?_) (fun c4 => ?_)
          ·
            have g4 : 2 ≤ stN J2 (mm J2 h) := c4
            refine g_iconst (v := nI 0) (pc' := 145) C dL_hour_144 (by decide) rfl ?_
            refine g_istore (pc' := 147) C dL_hour_145 rfl rfl ?_
            refine g_aload_n (pc' := 148) C dL_hour_147 rfl rfl ?_
            refine g_iconst (v := nI 4) (pc' := 149) C dL_hour_148 (by decide) rfl ?_
            refine g_iload (pc' := 151) C dL_hour_149 rfl rfl ?_
            refine g_imulN (pc' := 152) C dL_hour_151 rfl ?_
            refine g_iload (pc' := 154) C dL_hour_152 rfl rfl ?_
            refine g_if_eq (tgt := 161) (pc' := 157) C dL_hour_154 (by decide) rfl (fun c5 => ?_) (fun c5 => absurd (by decide) c5)
            refine g_iconst (v := nI 2) (pc' := 162) C dL_hour_161 (by decide) rfl ?_
            refine g_iast (pc' := 163) C (4 * h) rfl (by show _ < 64; omega) dL_hour_162 (al13 rfl) (fun _ => rfl) rfl rfl ?_
            have S3 : YS (fun _ => False) z (nw + 1) (upI J2 13 14 h (nI 2)) ((upI I2 13 1 (4 * h) (nI 2)) 13) := by
              rw [upI_13]
              exact (S2.hst hh (v := (nI 2)) (by decide) (by decide) (by decide)).wk (fun j _ q => q.1)
            have X3 : MI z.1 z.2 (upI J2 13 14 h (nI 2)) := X2.up _ (by omega)
            have hO3 : Oth I (upI I2 13 1 (4 * h) (nI 2)) := hO.up
            have b0 : (upI I2 13 1 (4 * h) (nI 2)) 13 0 (8 * mm J2 h) = nI (stN J2 (mm J2 h)) := by rw [upI_at, if_neg (by omega)]; exact a0n
            generalize (upI I2 13 1 (4 * h) (nI 2)) = I3 at S3 hO3 b0 ⊢
            refine g_aload_n (pc' := 164) C dL_hour_163 rfl rfl ?_
            refine g_bipush (v := nI 8) (pc' := 166) C dL_hour_164 (by decide) rfl ?_
            refine g_iload (pc' := 168) C dL_hour_166 rfl rfl ?_
            refine g_imulN (pc' := 169) C dL_hour_168 rfl ?_
            refine g_iload (pc' := 171) C dL_hour_169 rfl rfl ?_
            refine g_if_eq (tgt := 178) (pc' := 174) C dL_hour_171 (by decide) rfl (fun c6 => ?_) (fun c6 => absurd (by decide) c6)
            refine g_aload_n (pc' := 179) C dL_hour_178 rfl rfl ?_
            refine g_bipush (v := nI 8) (pc' := 181) C dL_hour_179 (by decide) rfl ?_
            refine g_iload (pc' := 183) C dL_hour_181 rfl rfl ?_
            refine g_imulN (pc' := 184) C dL_hour_183 rfl ?_
            refine g_iald (pc' := 185) C (8 * (mm J2 h)) rfl (by show _ < 64; omega) dL_hour_184 (al13 rfl) rfl rfl rfl ?_
            rw [b0]
            refine g_iast (pc' := 186) C (8 * (mm J2 h)) rfl (by show _ < 64; omega) dL_hour_185 (al13 rfl) (fun _ => rfl) rfl rfl ?_
            have S4 : YS (fun _ => False) z (nw + 1) (upI (upI J2 13 14 h (nI 2)) 13 6 (mm J2 h) (nI (stN J2 (mm J2 h)))) ((upI I3 13 0 (8 * (mm J2 h)) (nI (stN J2 (mm J2 h)))) 13) := by
              rw [upI_13]
              exact S3.st hmM (v := (nI (stN J2 (mm J2 h)))) (by rw [nI_clamp (by omega)]) (by rw [nI_clamp (by omega)]; exact a8)
            have X4 : MI z.1 z.2 (upI (upI J2 13 14 h (nI 2)) 13 6 (mm J2 h) (nI (stN J2 (mm J2 h)))) := X3.up _ (by omega)
            have hO4 : Oth I (upI I3 13 0 (8 * (mm J2 h)) (nI (stN J2 (mm J2 h)))) := hO3.up
            generalize (upI I3 13 0 (8 * (mm J2 h)) (nI (stN J2 (mm J2 h)))) = I4 at S4 hO4 ⊢
            refine g_iload_n (pc' := 187) C dL_hour_186 rfl rfl ?_
            refine g_iload (pc' := 189) C dL_hour_187 rfl rfl ?_
            refine g_if_eq (tgt := 196) (pc' := 192) C dL_hour_189 (by decide) rfl (fun c7 => ?_) (fun c7 => absurd (by decide) c7)
            refine g_iconst (v := nI 0) (pc' := 197) C dL_hour_196 (by decide) rfl ?_
            refine g_iadd (pc' := 198) C dL_hour_197 rfl ?_
            refine g_istore_n (pc' := 199) C dL_hour_198 rfl rfl ?_
            refine G_pick [0, 1, 2, 3, 4] rfl (next I4 _ _ hO4 X4 S4 ?_)
            have hE : ¬ eB J2 h = true := by unfold eB; rw [Bool.and_eq_true, decide_eq_true_eq]; exact fun q => absurd ((mOp_st S2 hmM).mp q.1) (by omega)
            show (if J2 13 14 h = 0 ∧ J2 13 18 h + J2 13 19 h = J2 12 0 1 then (if eB J2 h = true then (upI (upI J2 13 14 h 1) 13 6 (mm J2 h) 1, x + 1) else (upI (upI J2 13 14 h 2) 13 6 (mm J2 h) (J2 13 6 (mm J2 h)), x + 0)) else (J2, x)) = _
            rw [if_pos ⟨c2, sum.mpr c3⟩, if_neg hE, a7]
            rfl
          ·
            have g4 : stN J2 (mm J2 h) < 2 := c4
            refine g_aload_n (pc' := 126) C dL_hour_125 rfl rfl ?_
            refine g_iconst (v := nI 4) (pc' := 127) C dL_hour_126 (by decide) rfl ?_
            refine g_iload (pc' := 129) C dL_hour_127 rfl rfl ?_
            refine g_imulN (pc' := 130) C dL_hour_129 rfl ?_
            refine g_iconst (v := nI 3) (pc' := 131) C dL_hour_130 (by decide) rfl ?_
            refine g_iaddN (pc' := 132) C dL_hour_131 rfl ?_
            refine g_iald (pc' := 133) C (4 * h + 3) rfl (by show _ < 64; omega) dL_hour_132 (al13 rfl) rfl rfl rfl ?_
            rw [(S2.rH hh)]
            refine g_bipush (v := nI 16) (pc' := 135) C dL_hour_133 (by decide) rfl ?_
            refine g_idivN (r := ntN J2 h) (pc' := 136) C (by omega) (by omega) (eH_n hH4) dL_hour_135 rfl ?_
            refine g_iconst (v := nI 3) (pc' := 137) C dL_hour_136 (by decide) rfl ?_
            refine g_icmp_neN (tgt := 144) (pc' := 140) C (by omega) (by omega) dL_hour_137 (by decide) rfl (fun c8 => ?_) (fun c8 => ?_)
            ·
              have g5 : ¬ ntN J2 h = 3 := c8
              refine g_iconst (v := nI 0) (pc' := 145) C dL_hour_144 (by decide) rfl ?_
              refine g_istore (pc' := 147) C dL_hour_145 rfl rfl ?_
              refine g_aload_n (pc' := 148) C dL_hour_147 rfl rfl ?_
              refine g_iconst (v := nI 4) (pc' := 149) C dL_hour_148 (by decide) rfl ?_
              refine g_iload (pc' := 151) C dL_hour_149 rfl rfl ?_
              refine g_imulN (pc' := 152) C dL_hour_151 rfl ?_
              refine g_iload (pc' := 154) C dL_hour_152 rfl rfl ?_
              refine g_if_eq (tgt := 161) (pc' := 157) C dL_hour_154 (by decide) rfl (fun c9 => ?_) (fun c9 => absurd (by decide) c9)
              refine g_iconst (v := nI 2) (pc' := 162) C dL_hour_161 (by decide) rfl ?_
              refine g_iast (pc' := 163) C (4 * h) rfl (by show _ < 64; omega) dL_hour_162 (al13 rfl) (fun _ => rfl) rfl rfl ?_
              have S3 : YS (fun _ => False) z (nw + 1) (upI J2 13 14 h (nI 2)) ((upI I2 13 1 (4 * h) (nI 2)) 13) := by
                rw [upI_13]
                exact (S2.hst hh (v := (nI 2)) (by decide) (by decide) (by decide)).wk (fun j _ q => q.1)
              have X3 : MI z.1 z.2 (upI J2 13 14 h (nI 2)) := X2.up _ (by omega)
              have hO3 : Oth I (upI I2 13 1 (4 * h) (nI 2)) := hO.up
              have b0 : (upI I2 13 1 (4 * h) (nI 2)) 13 0 (8 * mm J2 h) = nI (stN J2 (mm J2 h)) := by rw [upI_at, if_neg (by omega)]; exact a0n
              generalize (upI I2 13 1 (4 * h) (nI 2)) = I3 at S3 hO3 b0 ⊢
              refine g_aload_n (pc' := 164) C dL_hour_163 rfl rfl ?_
              refine g_bipush (v := nI 8) (pc' := 166) C dL_hour_164 (by decide) rfl ?_
              refine g_iload (pc' := 168) C dL_hour_166 rfl rfl ?_
              refine g_imulN (pc' := 169) C dL_hour_168 rfl ?_
              refine g_iload (pc' := 171) C dL_hour_169 rfl rfl ?_
              refine g_if_eq (tgt := 178) (pc' := 174) C dL_hour_171 (by decide) rfl (fun c10 => ?_) (fun c10 => absurd (by decide) c10)
              refine g_aload_n (pc' := 179) C dL_hour_178 rfl rfl ?_
              refine g_bipush (v := nI 8) (pc' := 181) C dL_hour_179 (by decide) rfl ?_
              refine g_iload (pc' := 183) C dL_hour_181 rfl rfl ?_
              refine g_imulN (pc' := 184) C dL_hour_183 rfl ?_
              refine g_iald (pc' := 185) C (8 * (mm J2 h)) rfl (by show _ < 64; omega) dL_hour_184 (al13 rfl) rfl rfl rfl ?_
              rw [b0]
              refine g_iast (pc' := 186) C (8 * (mm J2 h)) rfl (by show _ < 64; omega) dL_hour_185 (al13 rfl) (fun _ => rfl) rfl rfl ?_
              have S4 : YS (fun _ => False) z (nw + 1) (upI (upI J2 13 14 h (nI 2)) 13 6 (mm J2 h) (nI (stN J2 (mm J2 h)))) ((upI I3 13 0 (8 * (mm J2 h)) (nI (stN J2 (mm J2 h)))) 13) := by
                rw [upI_13]
                exact S3.st hmM (v := (nI (stN J2 (mm J2 h)))) (by rw [nI_clamp (by omega)]) (by rw [nI_clamp (by omega)]; exact a8)
              have X4 : MI z.1 z.2 (upI (upI J2 13 14 h (nI 2)) 13 6 (mm J2 h) (nI (stN J2 (mm J2 h)))) := X3.up _ (by omega)
              have hO4 : Oth I (upI I3 13 0 (8 * (mm J2 h)) (nI (stN J2 (mm J2 h)))) := hO3.up
              generalize (upI I3 13 0 (8 * (mm J2 h)) (nI (stN J2 (mm J2 h)))) = I4 at S4 hO4 ⊢
              refine g_iload_n (pc' := 187) C dL_hour_186 rfl rfl ?_
              refine g_iload (pc' := 189) C dL_hour_187 rfl rfl ?_
              refine g_if_eq (tgt := 196) (pc' := 192) C dL_hour_189 (by decide) rfl (fun c11 => ?_) (fun c11 => absurd (by decide) c11)
              refine g_iconst (v := nI 0) (pc' := 197) C dL_hour_196 (by decide) rfl ?_
              refine g_iadd (pc' := 198) C dL_hour_197 rfl ?_
              refine g_istore_n (pc' := 199) C dL_hour_198 rfl rfl ?_
              refine G_pick [0, 1, 2, 3, 4] rfl (next I4 _ _ hO4 X4 S4 ?_)
              have hE : ¬ eB J2 h = true := by unfold eB; rw [Bool.and_eq_true, decide_eq_true_eq]; exact fun q => g5 ((nt_3 S2 hh).mp q.2)
              show (if J2 13 14 h = 0 ∧ J2 13 18 h + J2 13 19 h = J2 12 0 1 then (if eB J2 h = true then (upI (upI J2 13 14 h 1) 13 6 (mm J2 h) 1, x + 1) else (upI (upI J2 13 14 h 2) 13 6 (mm J2 h) (J2 13 6 (mm J2 h)), x + 0)) else (J2, x)) = _
              rw [if_pos ⟨c2, sum.mpr c3⟩, if_neg hE, a7]
              rfl
            ·
              have g5 : ntN J2 h = 3 := c8
              refine g_iconst (v := nI 1) (pc' := 141) C dL_hour_140 (by decide) rfl ?_
              refine g_goto (tgt := 145) C dL_hour_141 (by decide) ?_
              refine g_istore (pc' := 147) C dL_hour_145 rfl rfl ?_
              refine g_aload_n (pc' := 148) C dL_hour_147 rfl rfl ?_
              refine g_iconst (v := nI 4) (pc' := 149) C dL_hour_148 (by decide) rfl ?_
              refine g_iload (pc' := 151) C dL_hour_149 rfl rfl ?_
              refine g_imulN (pc' := 152) C dL_hour_151 rfl ?_
              refine g_iload (pc' := 154) C dL_hour_152 rfl rfl ?_
              refine g_if_eq (tgt := 161) (pc' := 157) C dL_hour_154 (by decide) rfl (fun c12 => absurd c12 (by decide)) (fun c12 => ?_)
              refine g_iconst (v := nI 1) (pc' := 158) C dL_hour_157 (by decide) rfl ?_
              refine g_goto (tgt := 162) C dL_hour_158 (by decide) ?_
              refine g_iast (pc' := 163) C (4 * h) rfl (by show _ < 64; omega) dL_hour_162 (al13 rfl) (fun _ => rfl) rfl rfl ?_
              have S3 : YS (fun _ => False) z (nw + 1) (upI J2 13 14 h (nI 1)) ((upI I2 13 1 (4 * h) (nI 1)) 13) := by
                rw [upI_13]
                exact (S2.hst hh (v := (nI 1)) (by decide) (by decide) (by decide)).wk (fun j _ q => q.1)
              have X3 : MI z.1 z.2 (upI J2 13 14 h (nI 1)) := X2.up _ (by omega)
              have hO3 : Oth I (upI I2 13 1 (4 * h) (nI 1)) := hO.up
              have b0 : (upI I2 13 1 (4 * h) (nI 1)) 13 0 (8 * mm J2 h) = nI (stN J2 (mm J2 h)) := by rw [upI_at, if_neg (by omega)]; exact a0n
              generalize (upI I2 13 1 (4 * h) (nI 1)) = I3 at S3 hO3 b0 ⊢
              refine g_aload_n (pc' := 164) C dL_hour_163 rfl rfl ?_
              refine g_bipush (v := nI 8) (pc' := 166) C dL_hour_164 (by decide) rfl ?_
              refine g_iload (pc' := 168) C dL_hour_166 rfl rfl ?_
              refine g_imulN (pc' := 169) C dL_hour_168 rfl ?_
              refine g_iload (pc' := 171) C dL_hour_169 rfl rfl ?_
              refine g_if_eq (tgt := 178) (pc' := 174) C dL_hour_171 (by decide) rfl (fun c13 => absurd c13 (by decide)) (fun c13 => ?_)
              refine g_iconst (v := nI 1) (pc' := 175) C dL_hour_174 (by decide) rfl ?_
              refine g_goto (tgt := 185) C dL_hour_175 (by decide) ?_
              refine g_iast (pc' := 186) C (8 * (mm J2 h)) rfl (by show _ < 64; omega) dL_hour_185 (al13 rfl) (fun _ => rfl) rfl rfl ?_
              have S4 : YS (fun _ => False) z (nw + 1) (upI (upI J2 13 14 h (nI 1)) 13 6 (mm J2 h) (nI 1)) ((upI I3 13 0 (8 * (mm J2 h)) (nI 1)) 13) := by
                rw [upI_13]
                exact S3.st hmM (v := (nI 1)) (by decide) (by decide)
              have X4 : MI z.1 z.2 (upI (upI J2 13 14 h (nI 1)) 13 6 (mm J2 h) (nI 1)) := X3.up _ (by omega)
              have hO4 : Oth I (upI I3 13 0 (8 * (mm J2 h)) (nI 1)) := hO3.up
              generalize (upI I3 13 0 (8 * (mm J2 h)) (nI 1)) = I4 at S4 hO4 ⊢
              refine g_iload_n (pc' := 187) C dL_hour_186 rfl rfl ?_
              refine g_iload (pc' := 189) C dL_hour_187 rfl rfl ?_
              refine g_if_eq (tgt := 196) (pc' := 192) C dL_hour_189 (by decide) rfl (fun c14 => absurd c14 (by decide)) (fun c14 => ?_)
              refine g_iconst (v := nI 1) (pc' := 193) C dL_hour_192 (by decide) rfl ?_
              refine g_goto (tgt := 197) C dL_hour_193 (by decide) ?_
              refine g_iadd (pc' := 198) C dL_hour_197 rfl ?_
              refine g_istore_n (pc' := 199) C dL_hour_198 rfl rfl ?_
              refine G_pick [0, 1, 2, 3, 4] rfl (next I4 _ _ hO4 X4 S4 ?_)
              have hE : eB J2 h = true := by unfold eB; rw [Bool.and_eq_true, decide_eq_true_eq]; exact ⟨(mOp_st S2 hmM).mpr g4, (nt_3 S2 hh).mpr g5⟩
              show (if J2 13 14 h = 0 ∧ J2 13 18 h + J2 13 19 h = J2 12 0 1 then (if eB J2 h = true then (upI (upI J2 13 14 h 1) 13 6 (mm J2 h) 1, x + 1) else (upI (upI J2 13 14 h 2) 13 6 (mm J2 h) (J2 13 6 (mm J2 h)), x + 0)) else (J2, x)) = _
              rw [if_pos ⟨c2, sum.mpr c3⟩, if_pos hE]
              rfl
  have loopA : ∀ (n k : Nat) (I2 J2 : wI), k + n = z.1 → Oth I I2 → YS (fun _ => False) z nw J2 (I2 13) → (∀ I3 J3, Oth I I3 → YS (fun _ => False) z nw J3 (I3 13) → eAL n k J2 = J3 → G K z I3 P O 0 0 48 [(0, .ref ((Kg K).2.2 13 0)), (1, .ref ((Kg K).2.2 13 1)), (2, .ref ((Kg K).2.2 13 6)), (3, .int (nI 0)), (4, .int (nI (z.1)))] []) → G K z I2 P O 0 0 5 [(0, .ref ((Kg K).2.2 13 0)), (1, .ref ((Kg K).2.2 13 1)), (2, .ref ((Kg K).2.2 13 6)), (3, .int (nI 0)), (4, .int (nI k))] [] := by
    intro n
    induction n with
    | zero =>
      intro k I2 J2 hk hO S2 kk
      have hz : k = z.1 := by omega
      subst hz
      refine g_iload (pc' := 7) C dL_hour_5 rfl rfl ?_
      refine g_aload_n (pc' := 8) C dL_hour_7 rfl rfl ?_
      refine g_iconst (v := nI 0) (pc' := 9) C dL_hour_8 (by decide) rfl ?_
      refine g_iald (pc' := 10) C (0) rfl (by show 0 < 3; omega) dL_hour_9 (al13 rfl) rfl rfl rfl ?_
      rw [S2.q0]
      refine g_icmp_geN (tgt := 48) (pc' := 13) C (by omega) (by omega) dL_hour_10 (by decide) rfl (fun c1 => ?_) (fun c1 => absurd c1 (by omega))
      exact kk I2 J2 hO S2 rfl
    | succ n ih =>
      intro k I2 J2 hk hO S2 kk
      have hkM : k < z.1 := by omega
      obtain ⟨a0, -, -, -, -, -, a6, a7, a8, -⟩ := S2.m.2.1 k hkM
      have a0n : I2 13 0 (8 * k) = nI (stN J2 k) := a0.trans a7
      have s3 : J2 13 6 k = 3 ↔ stN J2 k = 3 := by rw [a7, show (3 : Int32) = nI 3 from by decide, nI_eq (by omega) (by omega)]
      refine g_iload (pc' := 7) C dL_hour_5 rfl rfl ?_
      refine g_aload_n (pc' := 8) C dL_hour_7 rfl rfl ?_
      refine g_iconst (v := nI 0) (pc' := 9) C dL_hour_8 (by decide) rfl ?_
      refine g_iald (pc' := 10) C (0) rfl (by show 0 < 3; omega) dL_hour_9 (al13 rfl) rfl rfl rfl ?_
      rw [S2.q0]
      refine g_icmp_geN (tgt := 48) (pc' := 13) C (by omega) (by omega) dL_hour_10 (by decide) rfl (fun c1 => absurd c1 (by omega)) (fun c1 => ?_)
      refine g_aload_n (pc' := 14) C dL_hour_13 rfl rfl ?_
      refine g_bipush (v := nI 8) (pc' := 16) C dL_hour_14 (by decide) rfl ?_
      refine g_iload (pc' := 18) C dL_hour_16 rfl rfl ?_
      refine g_imulN (pc' := 19) C dL_hour_18 rfl ?_
      refine g_bipush (v := nI 6) (pc' := 21) C dL_hour_19 (by decide) rfl ?_
      refine g_iaddN (pc' := 22) C dL_hour_21 rfl ?_
      refine g_dup2 (pc' := 23) C dL_hour_22 rfl rfl rfl ?_
      refine g_iald (pc' := 24) C (8 * k + 6) rfl (by show _ < 64; omega) dL_hour_23 (al13 rfl) rfl rfl rfl ?_
      rw [a6]
      refine g_aload_n (pc' := 25) C dL_hour_24 rfl rfl ?_
      refine g_bipush (v := nI 8) (pc' := 27) C dL_hour_25 (by decide) rfl ?_
      refine g_iload (pc' := 29) C dL_hour_27 rfl rfl ?_
      refine g_imulN (pc' := 30) C dL_hour_29 rfl ?_
      refine g_iald (pc' := 31) C (8 * k) rfl (by show _ < 64; omega) dL_hour_30 (al13 rfl) rfl rfl rfl ?_
      rw [a0n]
      refine g_iconst (v := nI 3) (pc' := 32) C dL_hour_31 (by decide) rfl ?_
      refine g_icmp_neN (tgt := 39) (pc' := 35) C (by omega) (by omega) dL_hour_32 (by decide) rfl (fun c2 => ?_) (fun c2 => ?_)
      ·
        refine g_iconst (v := nI 0) (pc' := 40) C dL_hour_39 (by decide) rfl ?_
        refine g_iadd (pc' := 41) C dL_hour_40 rfl ?_
        refine g_iast (pc' := 42) C (8 * k + 6) rfl (by show _ < 64; omega) dL_hour_41 (al13 rfl) (fun _ => rfl) rfl rfl ?_
        have S3 : YS (fun _ => False) z nw (eAS k J2) ((upI I2 13 0 (8 * k + 6) ((J2 13 12 k) + nI 0)) 13) := by
          rw [upI_13, eAS_no (fun q => c2 (s3.mp q))]
          exact S2.en hkM
        have hO3 : Oth I (upI I2 13 0 (8 * k + 6) ((J2 13 12 k) + nI 0)) := hO.up
        generalize (upI I2 13 0 (8 * k + 6) ((J2 13 12 k) + nI 0)) = I3 at S3 hO3 ⊢
        refine g_iinc (pc' := 45) C dL_hour_42 rfl (iiN _) rfl rfl ?_
        refine g_goto (tgt := 5) C dL_hour_45 (by decide) ?_
        exact G_pick [0, 1, 2, 3, 4] rfl (ih (k + 1) I3 (eAS k J2) (by omega) hO3 S3 kk)
      ·
        refine g_iconst (v := nI 1) (pc' := 36) C dL_hour_35 (by decide) rfl ?_
        refine g_goto (tgt := 40) C dL_hour_36 (by decide) ?_
        refine g_iadd (pc' := 41) C dL_hour_40 rfl ?_
        refine g_iast (pc' := 42) C (8 * k + 6) rfl (by show _ < 64; omega) dL_hour_41 (al13 rfl) (fun _ => rfl) rfl rfl ?_
        have S3 : YS (fun _ => False) z nw (eAS k J2) ((upI I2 13 0 (8 * k + 6) ((J2 13 12 k) + nI 1)) 13) := by
          rw [upI_13, eAS_yes (s3.mpr c2)]
          exact S2.en hkM
        have hO3 : Oth I (upI I2 13 0 (8 * k + 6) ((J2 13 12 k) + nI 1)) := hO.up
        generalize (upI I2 13 0 (8 * k + 6) ((J2 13 12 k) + nI 1)) = I3 at S3 hO3 ⊢
        refine g_iinc (pc' := 45) C dL_hour_42 rfl (iiN _) rfl rfl ?_
        refine g_goto (tgt := 5) C dL_hour_45 (by decide) ?_
        exact G_pick [0, 1, 2, 3, 4] rfl (ih (k + 1) I3 (eAS k J2) (by omega) hO3 S3 kk)
  refine g_iconst (v := nI 0) (pc' := 1) C dL_hour_0 (by decide) rfl ?_
  refine g_istore_n (pc' := 2) C dL_hour_1 rfl rfl ?_
  refine g_iconst (v := nI 0) (pc' := 3) C dL_hour_2 (by decide) rfl ?_
  refine g_istore (pc' := 5) C dL_hour_3 rfl rfl ?_
  refine G_pick [0, 1, 2, 3, 4] rfl (loopA z.1 0 I J (by omega) Oth.rf S (fun I3 J3 hO3 S3 e3 => ?_))
  have X3 : MI z.1 z.2 J3 := by rw [← e3]; exact MI.eAL' _ _ _ X
  refine g_aload_n (pc' := 49) C dL_hour_48 rfl rfl ?_
  refine g_iconst (v := nI 2) (pc' := 50) C dL_hour_49 (by decide) rfl ?_
  refine g_dup2 (pc' := 51) C dL_hour_50 rfl rfl rfl ?_
  refine g_iald (pc' := 52) C (2) rfl (by show 2 < 3; omega) dL_hour_51 (al13 rfl) rfl rfl rfl ?_
  rw [S3.q2]
  refine g_iconst (v := nI 1) (pc' := 53) C dL_hour_52 (by decide) rfl ?_
  refine g_iaddN (pc' := 54) C dL_hour_53 rfl ?_
  refine g_iast (pc' := 55) C (2) rfl (by show 2 < 3; omega) dL_hour_54 (al13 rfl) (fun _ => rfl) rfl rfl ?_
  have S4 : YS (fun _ => False) z (nw + 1) (eN J3) ((upI I3 13 6 (2) (nI (nw + 1))) 13) := by rw [upI_13]; exact S3.tick hnw
  have hO4 : Oth I (upI I3 13 6 (2) (nI (nw + 1))) := hO3.up
  have X4 : MI z.1 z.2 (eN J3) := X3.up _ (by omega)
  generalize (upI I3 13 6 (2) (nI (nw + 1))) = I4 at S4 hO4 ⊢
  refine g_iconst (v := nI 0) (pc' := 56) C dL_hour_55 (by decide) rfl ?_
  refine g_istore (pc' := 58) C dL_hour_56 rfl rfl ?_
  refine G_pick [0, 1, 2, 3, 4] rfl (loopC z.2 0 (nI 0) I4 (eN J3) (by omega) hO4 X4 S4 (fun I5 J5 y hO5 S5 e5 => ?_))
  refine g_iconst (v := nI 0) (pc' := 206) C dL_hour_205 (by decide) rfl ?_
  refine g_istore (pc' := 208) C dL_hour_206 rfl rfl ?_
  have eM : mEn z.1 z.2 J = (eCL z.1 0 J5, y) := by
    unfold mEn
    rw [e3]
    show (eCL z.1 0 (eBL z.2 0 (eN J3, 0)).1, (eBL z.2 0 (eN J3, 0)).2) = _
    rw [← nI_0, e5]
  exact G_pick [0, 1, 2, 3, 4] rfl (loopD z.1 0 y I5 J5 (by omega) hO5 S5 (by rw [eM]; exact ⟨rfl, rfl⟩))
end WLhour
