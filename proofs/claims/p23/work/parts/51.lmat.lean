section WLmat
set_option maxRecDepth 20000 in
theorem l_mt0 {K : wK} {z : wZ} {I : wI} {P : wP} {O : wO} {nw : Nat} {J : wI} {sz : Nat} (hfl : (Kl K).stackTraces = false) (C : Cx K cL_matters RL 14 (some .boolean) { frames := 8, cells := 2, slots := 14, locals := 150 } z) (hR : Rq K (Kg K) z sz I P O 2 14 (oP (Kg K) z sz nw O) (fun _ => False)) (S : Stt z nw I P J) (hz : 0 < z.1) {a : Nat} {v : Int32} (kk : ∀ j : Nat, j < z.1 → G K z I P O 0 0 19 [(0, .ref ((Kg K).2.2 0 0)), (1, .int (nI a)), (2, .int v), (3, .ref ((Kg K).2.2 13 0)), (4, .ref ((Kg K).2.2 13 1)), (5, .ref ((Kg K).2.2 13 2)), (6, .ref ((Kg K).2.2 13 3)), (7, .ref ((Kg K).2.2 13 4)), (8, .ref ((Kg K).2.2 13 5)), (9, .ref ((Kg K).2.2 13 6)), (10, .int (nI j)), (11, .int (nI (stN J j)))] []) : G K z I P O 0 0 0 [(0, .ref ((Kg K).2.2 0 0)), (1, .int (nI a)), (2, .int v), (3, .ref ((Kg K).2.2 13 0)), (4, .ref ((Kg K).2.2 13 1)), (5, .ref ((Kg K).2.2 13 2)), (6, .ref ((Kg K).2.2 13 3)), (7, .ref ((Kg K).2.2 13 4)), (8, .ref ((Kg K).2.2 13 5)), (9, .ref ((Kg K).2.2 13 6))] [] := by
  have hM8 := S.y.M8
  refine g_iload_n (pc' := 1) C dL_matters_0 rfl rfl ?_
  refine g_aload (pc' := 3) C dL_matters_1 rfl rfl ?_
  refine g_iconst (v := nI 0) (pc' := 4) C dL_matters_3 (by decide) rfl ?_
  refine g_iald (pc' := 5) C (0) rfl (by show 0 < 3; omega) dL_matters_4 (al13 rfl) rfl rfl rfl ?_
  rw [S.y.q0]
  refine g_callS (pc' := 8) (As := [.int (v), .int (nI z.1)]) (S := []) C cs_L_65 (w_low (b := z.1) hz (by omega)) dL_matters_5 ⟨rfl, by decide +kernel, by decide +kernel, (by decide +kernel : (parseMethodDescriptor yL_low.desc).map (fun d => d.parameters.length) = some 2)⟩ ⟨⟨Nat.le_of_ble_eq_true rfl, Nat.le_of_ble_eq_true rfl⟩, rfl, rfl⟩ rfl (Nat.le_of_ble_eq_true rfl) ⟨Nat.zero_le _, Nat.zero_le _⟩ rfl (fun v1 I1 P1 q => ?_)
  obtain ⟨rfl, q1, q2⟩ := q
  rw [q1, q2]
  obtain ⟨j, hj, ej⟩ : ∃ r, r < z.1 ∧ lowN (v) z.1 = r := ⟨_, lowN_lt hz, rfl⟩
  rw [ej]
  refine g_istore (pc' := 10) C dL_matters_8 rfl rfl ?_
  refine g_aload_n (pc' := 11) C dL_matters_10 rfl rfl ?_
  refine g_bipush (v := nI 8) (pc' := 13) C dL_matters_11 (by decide) rfl ?_
  refine g_iload (pc' := 15) C dL_matters_13 rfl rfl ?_
  refine g_imulN (pc' := 16) C dL_matters_15 rfl ?_
  obtain ⟨a0, -, -, -, -, -, -, a7, -⟩ := S.y.m.2.1 j hj
  have a0n : I 13 0 (8 * j) = nI (stN J j) := a0.trans a7
  refine g_iald (pc' := 17) C (8 * j) rfl (by show _ < 64; omega) dL_matters_16 (al13 rfl) rfl rfl rfl ?_
  rw [a0n]
  refine g_istore (pc' := 19) C dL_matters_17 rfl rfl ?_
  exact G_pick [0, 1, 2, 3, 4, 5, 6, 7, 8, 9, 10, 11] rfl (kk j hj)
set_option maxRecDepth 20000 in
theorem l_decide {K : wK} {z : wZ} {I : wI} {P : wP} {O : wO} {nw : Nat} {J : wI} {sz : Nat} (hfl : (Kl K).stackTraces = false) (C : Cx K cL_matters RL 14 (some .boolean) { frames := 8, cells := 2, slots := 14, locals := 150 } z) (hR : Rq K (Kg K) z sz I P O 2 14 (oP (Kg K) z sz nw O) (fun _ => False)) (S : Stt z nw I P J) (hz : 0 < z.1) {v : Int32} : G K z I P O 0 0 0 [(0, .ref ((Kg K).2.2 0 0)), (1, .int (nI 0)), (2, .int v), (3, .ref ((Kg K).2.2 13 0)), (4, .ref ((Kg K).2.2 13 1)), (5, .ref ((Kg K).2.2 13 2)), (6, .ref ((Kg K).2.2 13 3)), (7, .ref ((Kg K).2.2 13 4)), (8, .ref ((Kg K).2.2 13 5)), (9, .ref ((Kg K).2.2 13 6))] [] := by
  refine l_mt0 hfl C hR S hz (fun j hj => ?_)
  have hM8 := S.y.M8
  have hN16 := S.y.N16
  obtain ⟨a0, -, a2, -, -, a5, a6, a7, a8, -⟩ := S.y.m.2.1 j hj
  have a0n : I 13 0 (8 * j) = nI (stN J j) := a0.trans a7
  have hK := Ks_v S.y hj (v := 1) (by omega) nI1'.symm
  have hcK : ∀ I2, Oth I I2 → cKs I2 z.1 (nI j) 1 = mKs J z.1 (nI j) 1 := fun I2 hO => cKs_eq (S.s.oth hO)
  have loop : stN J j = 1 → ∀ (n h : Nat) (c : Int32) (I2 J2 : wI), h + n = z.2 → Oth I I2 → MI z.1 z.2 J2 → YS (fun _ => False) z nw J2 (I2 13) → NC z.2 J2 → (∀ I3 J3 c3, Oth I I3 → YS (fun _ => False) z nw J3 (I3 13) → mdL j n h (J2, c) = (J3, c3) → G K z I3 P O 0 0 104 [(0, .ref ((Kg K).2.2 0 0)), (1, .int (nI 0)), (2, .int v), (3, .ref ((Kg K).2.2 13 0)), (4, .ref ((Kg K).2.2 13 1)), (5, .ref ((Kg K).2.2 13 2)), (6, .ref ((Kg K).2.2 13 3)), (7, .ref ((Kg K).2.2 13 4)), (8, .ref ((Kg K).2.2 13 5)), (9, .ref ((Kg K).2.2 13 6)), (10, .int (nI j)), (11, .int (nI (stN J j))), (12, .int c3), (13, .int (nI (z.2)))] []) → G K z I2 P O 0 0 29 [(0, .ref ((Kg K).2.2 0 0)), (1, .int (nI 0)), (2, .int v), (3, .ref ((Kg K).2.2 13 0)), (4, .ref ((Kg K).2.2 13 1)), (5, .ref ((Kg K).2.2 13 2)), (6, .ref ((Kg K).2.2 13 3)), (7, .ref ((Kg K).2.2 13 4)), (8, .ref ((Kg K).2.2 13 5)), (9, .ref ((Kg K).2.2 13 6)), (10, .int (nI j)), (11, .int (nI (stN J j))), (12, .int c), (13, .int (nI h))] [] := by
    intro h1 n
    induction n with
    | zero =>
      intro h c I2 J2 hk hO X2 S2 n2 kk
      have e : h = z.2 := by omega
      subst e
      refine g_iload (pc' := 31) C dL_matters_29 rfl rfl ?_
      refine g_aload (pc' := 33) C dL_matters_31 rfl rfl ?_
      refine g_iconst (v := nI 1) (pc' := 34) C dL_matters_33 (by decide) rfl ?_
      refine g_iald (pc' := 35) C (1) rfl (by show 1 < 3; omega) dL_matters_34 (al13 rfl) rfl rfl rfl ?_
      rw [S2.q1]
      refine g_icmp_geN (tgt := 104) (pc' := 38) C (by omega) (by omega) dL_matters_35 (by decide) rfl (fun c1 => ?_) (fun c1 => absurd c1 (by omega))
      exact kk I2 J2 c hO S2 rfl
    | succ n ih =>
      intro h c I2 J2 hk hO X2 S2 n2 kk
      have hh : h < z.2 := by omega
      have hm12 : mm J2 h < 12 := X2.mt2 hh
      have hr4 := S2.rm4 hh
      have hs4 := S2.sp4 hh
      have hlt := eA_lt hm12 hr4 hs4
      have skip : ¬ (mm J2 h = j ∧ J2 13 14 h = 0) → G K z I2 P O 0 0 98 [(0, .ref ((Kg K).2.2 0 0)), (1, .int (nI 0)), (2, .int v), (3, .ref ((Kg K).2.2 13 0)), (4, .ref ((Kg K).2.2 13 1)), (5, .ref ((Kg K).2.2 13 2)), (6, .ref ((Kg K).2.2 13 3)), (7, .ref ((Kg K).2.2 13 4)), (8, .ref ((Kg K).2.2 13 5)), (9, .ref ((Kg K).2.2 13 6)), (10, .int (nI j)), (11, .int (nI (stN J j))), (12, .int c), (13, .int (nI h))] [] := by
        intro hno
        refine g_iinc (pc' := 101) C dL_matters_98 rfl (iiN _) rfl rfl ?_
        refine g_goto (tgt := 29) C dL_matters_101 (by decide) ?_
        refine G_pick [0, 1, 2, 3, 4, 5, 6, 7, 8, 9, 10, 11, 12, 13] rfl (ih (h + 1) c I2 J2 (by omega) hO X2 S2 n2 (fun I3 J3 c3 hO3 S3 e3 => kk I3 J3 c3 hO3 S3 ?_))
        show mdL j n (h + 1) (mdS j h (J2, c)) = _
        unfold mdS
        rw [if_neg hno]
        exact e3
      refine g_iload (pc' := 31) C dL_matters_29 rfl rfl ?_
      refine g_aload (pc' := 33) C dL_matters_31 rfl rfl ?_
      refine g_iconst (v := nI 1) (pc' := 34) C dL_matters_33 (by decide) rfl ?_
      refine g_iald (pc' := 35) C (1) rfl (by show 1 < 3; omega) dL_matters_34 (al13 rfl) rfl rfl rfl ?_
      rw [S2.q1]
      refine g_icmp_geN (tgt := 104) (pc' := 38) C (by omega) (by omega) dL_matters_35 (by decide) rfl (fun c1 => absurd c1 (by omega)) (fun c1 => ?_)
      refine g_iload (pc' := 40) C dL_matters_38 rfl rfl ?_
      refine g_iconst (v := nI 1) (pc' := 41) C dL_matters_40 (by decide) rfl ?_
      refine g_icmp_neN (tgt := 104) (pc' := 44) C (by omega) (by omega) dL_matters_41 (by decide) rfl (fun c2 => absurd h1 c2) (fun c2 => ?_)
      refine g_aload (pc' := 46) C dL_matters_44 rfl rfl ?_
      refine g_iconst (v := nI 4) (pc' := 47) C dL_matters_46 (by decide) rfl ?_
      refine g_iload (pc' := 49) C dL_matters_47 rfl rfl ?_
      refine g_imulN (pc' := 50) C dL_matters_49 rfl ?_
      refine g_iald (pc' := 51) C (4 * h) rfl (by show _ < 64; omega) dL_matters_50 (al13 rfl) rfl rfl rfl ?_
      rw [(S2.rS hh)]
      refine g_if_ne (tgt := 98) (pc' := 54) C dL_matters_51 (by decide) rfl (fun c3 => ?_) (fun c3 => ?_)
      ·
        have hp14 : ¬ J2 13 14 h = 0 := c3
        exact skip (fun q => hp14 q.2)
      ·
        have hp14 : J2 13 14 h = 0 := c3
        refine g_aload (pc' := 56) C dL_matters_54 rfl rfl ?_
        refine g_iconst (v := nI 4) (pc' := 57) C dL_matters_56 (by decide) rfl ?_
        refine g_iload (pc' := 59) C dL_matters_57 rfl rfl ?_
        refine g_imulN (pc' := 60) C dL_matters_59 rfl ?_
        refine g_iconst (v := nI 1) (pc' := 61) C dL_matters_60 (by decide) rfl ?_
        refine g_iaddN (pc' := 62) C dL_matters_61 rfl ?_
        refine g_iald (pc' := 63) C (4 * h + 1) rfl (by show _ < 64; omega) dL_matters_62 (al13 rfl) rfl rfl rfl ?_
        rw [(S2.rA hh)]
        refine g_bipush (v := nI 16) (pc' := 65) C dL_matters_63 (by decide) rfl ?_
        refine g_iremN (r := mm J2 h) (pc' := 66) C (by omega) (by omega) (eA_m hm12 hr4) dL_matters_65 rfl ?_
        refine g_iload (pc' := 68) C dL_matters_66 rfl rfl ?_
        refine g_icmp_neN (tgt := 98) (pc' := 71) C (by omega) (by omega) dL_matters_68 (by decide) rfl (fun c4 => ?_) (fun c4 => ?_)
        ·
          exact skip (fun q => c4 q.1)
        ·
          refine g_iload (pc' := 73) C dL_matters_71 rfl rfl ?_
          refine g_aload_n (pc' := 74) C dL_matters_73 rfl rfl ?_
          refine g_aload (pc' := 76) C dL_matters_74 rfl rfl ?_
          refine g_aload (pc' := 78) C dL_matters_76 rfl rfl ?_
          refine g_aload (pc' := 80) C dL_matters_78 rfl rfl ?_
          refine g_aload (pc' := 82) C dL_matters_80 rfl rfl ?_
          refine g_aload (pc' := 84) C dL_matters_82 rfl rfl ?_
          refine g_callS (pc' := 87) (As := [.int (nI h), .ref ((Kg K).2.2 13 0), .ref ((Kg K).2.2 13 1), .ref ((Kg K).2.2 13 2), .ref ((Kg K).2.2 13 3), .ref ((Kg K).2.2 13 4), .ref ((Kg K).2.2 13 6)]) (S := []) C cs_L_85 (w_leaves (nw := nw) (J := J2) (ex := fun j => j = h) X2 (S2.wk (fun _ _ q => q.elim)) rfl hh (fun hs => n2.ap X2 hh hp14 hs) (S2.fre hh (fun q => q) hp14)) dL_matters_84 ⟨rfl, by decide +kernel, by decide +kernel, (by decide +kernel : (parseMethodDescriptor yL_leaves.desc).map (fun d => d.parameters.length) = some 7)⟩ ⟨⟨Nat.le_of_ble_eq_true rfl, Nat.le_of_ble_eq_true rfl⟩, rfl, rfl⟩ rfl (Nat.le_of_ble_eq_true rfl) ⟨Nat.zero_le _, Nat.zero_le _⟩ rfl (fun v1 I3 P1 q => ?_)
          obtain ⟨rfl, q2, hO1, S1⟩ := q
          rw [q2]
          clear q2
          refine g_aload (pc' := 89) C dL_matters_87 rfl rfl ?_
          refine g_iconst (v := nI 4) (pc' := 90) C dL_matters_89 (by decide) rfl ?_
          refine g_iload (pc' := 92) C dL_matters_90 rfl rfl ?_
          refine g_imulN (pc' := 93) C dL_matters_92 rfl ?_
          refine g_iconst (v := nI 3) (pc' := 94) C dL_matters_93 (by decide) rfl ?_
          refine g_iast (pc' := 95) C (4 * h) rfl (by show _ < 64; omega) dL_matters_94 (al13 rfl) (fun _ => rfl) rfl rfl ?_
          have S4 : YS (fun _ => False) z nw (upI (mLv h J2) 13 14 h 3) ((upI I3 13 1 (4 * h) (nI 3)) 13) := by
            rw [upI_13]
            exact (S1.hst hh (v := 3) (by decide) (by decide) (by decide)).wk (fun j _ q => q.2 q.1)
          have hO4 : Oth I (upI I3 13 1 (4 * h) (nI 3)) := (hO.tr hO1).up
          generalize (upI I3 13 1 (4 * h) (nI 3)) = I4 at S4 hO4 ⊢
          refine g_iinc (pc' := 98) C dL_matters_95 rfl (ii1 _) rfl rfl ?_
          refine g_iinc (pc' := 101) C dL_matters_98 rfl (iiN _) rfl rfl ?_
          refine g_goto (tgt := 29) C dL_matters_101 (by decide) ?_
          refine G_pick [0, 1, 2, 3, 4, 5, 6, 7, 8, 9, 10, 11, 12, 13] rfl (ih (h + 1) (c + 1) I4 (upI (mLv h J2) 13 14 h 3) (by omega) hO4 ((X2.lv' hh).up _ (by omega)) S4 ((n2.of (fun f c hf => mLv_off (by omega) (by omega) (by omega))).st (by decide)) (fun I3 J3 c3 hO3 S3 e3 => kk I3 J3 c3 hO3 S3 ?_))
          show mdL j n (h + 1) (mdS j h (J2, c)) = _
          unfold mdS
          rw [if_pos ⟨c4, hp14⟩]
          exact e3
  by_cases h1 : stN J j = 1
  ·
    refine g_iload_n (pc' := 20) C dL_matters_19 rfl rfl ?_
    refine g_if_ne (tgt := 156) (pc' := 23) C dL_matters_20 (by decide) rfl (fun c1 => absurd (by decide) c1) (fun c1 => ?_)
    refine g_iconst (v := nI 0) (pc' := 24) C dL_matters_23 (by decide) rfl ?_
    refine g_istore (pc' := 26) C dL_matters_24 rfl rfl ?_
    refine g_iconst (v := nI 0) (pc' := 27) C dL_matters_26 (by decide) rfl ?_
    refine g_istore (pc' := 29) C dL_matters_27 rfl rfl ?_
    refine G_pick [0, 1, 2, 3, 4, 5, 6, 7, 8, 9, 10, 11, 12, 13] rfl (loop h1 z.2 0 (nI 0) I (th J 0) (by omega) Oth.rf S.th0.s.M S.th0.y S.th0.s.A.nc (fun I3 J3 c3 hO3 S3 e3 => ?_))
    rw [nI_0] at e3
    refine g_aload_n (pc' := 105) C dL_matters_104 rfl rfl ?_
    refine g_bipush (v := nI 8) (pc' := 107) C dL_matters_105 (by decide) rfl ?_
    refine g_iload (pc' := 109) C dL_matters_107 rfl rfl ?_
    refine g_imulN (pc' := 110) C dL_matters_109 rfl ?_
    refine g_iload (pc' := 112) C dL_matters_110 rfl rfl ?_
    refine g_iconst (v := nI 1) (pc' := 113) C dL_matters_112 (by decide) rfl ?_
    refine g_icmp_neN (tgt := 120) (pc' := 116) C (by omega) (by omega) dL_matters_113 (by decide) rfl (fun c1 => absurd h1 c1) (fun c1 => ?_)
    refine g_iconst (v := nI 2) (pc' := 117) C dL_matters_116 (by decide) rfl ?_
    refine g_goto (tgt := 122) C dL_matters_117 (by decide) ?_
    refine g_iast (pc' := 123) C (8 * j) rfl (by show _ < 64; omega) dL_matters_122 (al13 rfl) (fun _ => rfl) rfl rfl ?_
    have S2 : YS (fun _ => False) z nw (upI J3 13 6 j 2) ((upI I3 13 0 (8 * j) (nI 2)) 13) := by
      rw [upI_13]
      exact S3.st hj (v := 2) (by decide) (by decide)
    have hO : Oth I (upI I3 13 0 (8 * j) (nI 2)) := hO3.up
    generalize (upI I3 13 0 (8 * j) (nI 2)) = I2 at S2 hO ⊢
    refine g_aload_n (pc' := 124) C dL_matters_123 rfl rfl ?_
    refine g_iconst (v := nI 3) (pc' := 125) C dL_matters_124 (by decide) rfl ?_
    refine g_iload (pc' := 127) C dL_matters_125 rfl rfl ?_
    refine g_iconst (v := nI 0) (pc' := 128) C dL_matters_127 (by decide) rfl ?_
    refine g_iconst (v := nI 0) (pc' := 129) C dL_matters_128 (by decide) rfl ?_
    refine g_iconst (v := nI 0) (pc' := 130) C dL_matters_129 (by decide) rfl ?_
    refine g_iconst (v := nI 0) (pc' := 131) C dL_matters_130 (by decide) rfl ?_
    refine x_callS (pc' := 134) (mc := 1) (ms := 6) (As := [.ref ((Kg K).2.2 0 0), .int (nI 3), .int (nI j), .int (nI 0), .int (nI 0), .int (nI 0), .int (nI 0)]) (S := []) C hR.k cw_L_calls (fun sz => w_c_decide hfl (S.s.oth hO).X (by rw [hcK I2 hO, hK, if_pos h1]; decide) sz) dL_matters_131 ⟨by decide +kernel, by decide +kernel, (by decide +kernel : (parseMethodDescriptor yL_calls.desc).map (fun d => d.parameters.length) = some 7)⟩ ⟨⟨Nat.le_of_ble_eq_true rfl, Nat.le_of_ble_eq_true rfl⟩, rfl, rfl⟩ rfl (Nat.le_of_ble_eq_true rfl) ⟨Nat.le_of_ble_eq_true rfl, Nat.le_of_ble_eq_true rfl⟩ rfl (fun sz' v' g' z' I' P' O' hA' hp => ?_)
    obtain ⟨qO, hp⟩ := hp
    rcases hp with ⟨hk, q0, ⟨q1, q2⟩, q3, q4⟩ | ⟨hk, -⟩
    case inr => exact absurd ((hcK I2 hO).trans (by rw [hK, if_pos h1])) hk
    obtain ⟨S5, e5⟩ := fin_decide S hO hj h1 e3 S2
    subst q1
    subst q2
    rw [Kw_self, q0, q3, q4, qO, e5]
    refine g_iload (pc' := 136) C dL_matters_134 rfl rfl ?_
    refine g_iconst (v := nI 1) (pc' := 137) C dL_matters_136 (by decide) rfl ?_
    refine g_icmp_neN (tgt := 145) (pc' := 140) C (by omega) (by omega) dL_matters_137 (by decide) rfl (fun c2 => absurd h1 c2) (fun c2 => ?_)
    refine g_iload (pc' := 142) C dL_matters_140 rfl rfl ?_
    refine g_goto (tgt := 147) C dL_matters_142 (by decide) ?_
    refine g_icmp_ne (tgt := 154) (pc' := 150) C dL_matters_147 (by decide) rfl (fun c3 => absurd rfl c3) (fun c3 => ?_)
    refine g_iconst (v := nI 1) (pc' := 151) C dL_matters_150 (by decide) rfl ?_
    refine g_goto (tgt := 155) C dL_matters_151 (by decide) ?_
    exact x_zret C hR dL_matters_155 rfl (Nat.le_of_ble_eq_true rfl) (Nat.le_of_ble_eq_true rfl) ⟨rfl, by rw [nI1'], Gr.rf, _, S5⟩
  ·
    refine g_iload_n (pc' := 20) C dL_matters_19 rfl rfl ?_
    refine g_if_ne (tgt := 156) (pc' := 23) C dL_matters_20 (by decide) rfl (fun c1 => absurd (by decide) c1) (fun c1 => ?_)
    refine g_iconst (v := nI 0) (pc' := 24) C dL_matters_23 (by decide) rfl ?_
    refine g_istore (pc' := 26) C dL_matters_24 rfl rfl ?_
    refine g_iconst (v := nI 0) (pc' := 27) C dL_matters_26 (by decide) rfl ?_
    refine g_istore (pc' := 29) C dL_matters_27 rfl rfl ?_
    refine g_iload (pc' := 31) C dL_matters_29 rfl rfl ?_
    refine g_aload (pc' := 33) C dL_matters_31 rfl rfl ?_
    refine g_iconst (v := nI 1) (pc' := 34) C dL_matters_33 (by decide) rfl ?_
    refine g_iald (pc' := 35) C (1) rfl (by show 1 < 3; omega) dL_matters_34 (al13 rfl) rfl rfl rfl ?_
    rw [S.y.q1]
    refine g_icmp_geN (tgt := 104) (pc' := 38) C (by omega) (by omega) dL_matters_35 (by decide) rfl (fun c2 => ?_) (fun c2 => ?_)
    ·
      skip
      refine g_aload_n (pc' := 105) C dL_matters_104 rfl rfl ?_
      refine g_bipush (v := nI 8) (pc' := 107) C dL_matters_105 (by decide) rfl ?_
      refine g_iload (pc' := 109) C dL_matters_107 rfl rfl ?_
      refine g_imulN (pc' := 110) C dL_matters_109 rfl ?_
      refine g_iload (pc' := 112) C dL_matters_110 rfl rfl ?_
      refine g_iconst (v := nI 1) (pc' := 113) C dL_matters_112 (by decide) rfl ?_
      refine g_icmp_neN (tgt := 120) (pc' := 116) C (by omega) (by omega) dL_matters_113 (by decide) rfl (fun c3 => ?_) (fun c3 => absurd c3 h1)
      refine g_iload (pc' := 122) C dL_matters_120 rfl rfl ?_
      refine g_iast (pc' := 123) C (8 * j) rfl (by show _ < 64; omega) dL_matters_122 (al13 rfl) (fun _ => rfl) rfl rfl ?_
      have S2 : YS (fun _ => False) z nw J ((upI I 13 0 (8 * j) (nI (stN J j))) 13) := by
        rw [upI_13]
        have q := S.y.st hj (v := nI (stN J j)) (by rw [nI_clamp (by omega)]) (by rw [nI_clamp (by omega)]; exact a8)
        rw [← a7, upI_self] at q
        rw [a7] at q
        exact q
      have hO : Oth I (upI I 13 0 (8 * j) (nI (stN J j))) := Oth.rf.up
      generalize (upI I 13 0 (8 * j) (nI (stN J j))) = I2 at S2 hO ⊢
      refine g_aload_n (pc' := 124) C dL_matters_123 rfl rfl ?_
      refine g_iconst (v := nI 3) (pc' := 125) C dL_matters_124 (by decide) rfl ?_
      refine g_iload (pc' := 127) C dL_matters_125 rfl rfl ?_
      refine g_iconst (v := nI 0) (pc' := 128) C dL_matters_127 (by decide) rfl ?_
      refine g_iconst (v := nI 0) (pc' := 129) C dL_matters_128 (by decide) rfl ?_
      refine g_iconst (v := nI 0) (pc' := 130) C dL_matters_129 (by decide) rfl ?_
      refine g_iconst (v := nI 0) (pc' := 131) C dL_matters_130 (by decide) rfl ?_
      refine x_callS (pc' := 134) (mc := 1) (ms := 6) (As := [.ref ((Kg K).2.2 0 0), .int (nI 3), .int (nI j), .int (nI 0), .int (nI 0), .int (nI 0), .int (nI 0)]) (S := []) C hR.k cw_L_calls (fun sz => w_c_decide hfl (S.s.oth hO).X (by rw [hcK I2 hO, hK, if_neg h1]; decide) sz) dL_matters_131 ⟨by decide +kernel, by decide +kernel, (by decide +kernel : (parseMethodDescriptor yL_calls.desc).map (fun d => d.parameters.length) = some 7)⟩ ⟨⟨Nat.le_of_ble_eq_true rfl, Nat.le_of_ble_eq_true rfl⟩, rfl, rfl⟩ rfl (Nat.le_of_ble_eq_true rfl) ⟨Nat.le_of_ble_eq_true rfl, Nat.le_of_ble_eq_true rfl⟩ rfl (fun sz' v' g' z' I' P' O' hA' hp => ?_)
      obtain ⟨qO, hp⟩ := hp
      rcases hp with ⟨hk, -⟩ | ⟨hk, q0, q1, q2, q3, q4⟩
      · exact absurd hk (by rw [hcK I2 hO, hK, if_neg h1]; decide)
      have S5 : Stt z nw I2 P J := S.oth hO S2
      rw [q0, q1, q2, q3, q4, qO, Kw_self]
      refine g_iload (pc' := 136) C dL_matters_134 rfl rfl ?_
      refine g_iconst (v := nI 1) (pc' := 137) C dL_matters_136 (by decide) rfl ?_
      refine g_icmp_neN (tgt := 145) (pc' := 140) C (by omega) (by omega) dL_matters_137 (by decide) rfl (fun c4 => ?_) (fun c4 => absurd c4 h1)
      refine g_ldc (v := (-100003)) (pc' := 147) C kL_46 dL_matters_145 rfl ?_
      refine g_icmp_ne (tgt := 154) (pc' := 150) C dL_matters_147 (by decide) rfl (fun c5 => absurd rfl c5) (fun c5 => ?_)
      refine g_iconst (v := nI 1) (pc' := 151) C dL_matters_150 (by decide) rfl ?_
      refine g_goto (tgt := 155) C dL_matters_151 (by decide) ?_
      exact x_zret C hR dL_matters_155 rfl (Nat.le_of_ble_eq_true rfl) (Nat.le_of_ble_eq_true rfl) ⟨rfl, by rw [nI1'], Gr.rf, _, S5⟩
    ·
      skip
      refine g_iload (pc' := 40) C dL_matters_38 rfl rfl ?_
      refine g_iconst (v := nI 1) (pc' := 41) C dL_matters_40 (by decide) rfl ?_
      refine g_icmp_neN (tgt := 104) (pc' := 44) C (by omega) (by omega) dL_matters_41 (by decide) rfl (fun c6 => ?_) (fun c6 => absurd c6 h1)
      refine g_aload_n (pc' := 105) C dL_matters_104 rfl rfl ?_
      refine g_bipush (v := nI 8) (pc' := 107) C dL_matters_105 (by decide) rfl ?_
      refine g_iload (pc' := 109) C dL_matters_107 rfl rfl ?_
      refine g_imulN (pc' := 110) C dL_matters_109 rfl ?_
      refine g_iload (pc' := 112) C dL_matters_110 rfl rfl ?_
      refine g_iconst (v := nI 1) (pc' := 113) C dL_matters_112 (by decide) rfl ?_
      refine g_icmp_neN (tgt := 120) (pc' := 116) C (by omega) (by omega) dL_matters_113 (by decide) rfl (fun c7 => ?_) (fun c7 => absurd c7 h1)
      refine g_iload (pc' := 122) C dL_matters_120 rfl rfl ?_
      refine g_iast (pc' := 123) C (8 * j) rfl (by show _ < 64; omega) dL_matters_122 (al13 rfl) (fun _ => rfl) rfl rfl ?_
      have S2 : YS (fun _ => False) z nw J ((upI I 13 0 (8 * j) (nI (stN J j))) 13) := by
        rw [upI_13]
        have q := S.y.st hj (v := nI (stN J j)) (by rw [nI_clamp (by omega)]) (by rw [nI_clamp (by omega)]; exact a8)
        rw [← a7, upI_self] at q
        rw [a7] at q
        exact q
      have hO : Oth I (upI I 13 0 (8 * j) (nI (stN J j))) := Oth.rf.up
      generalize (upI I 13 0 (8 * j) (nI (stN J j))) = I2 at S2 hO ⊢
      refine g_aload_n (pc' := 124) C dL_matters_123 rfl rfl ?_
      refine g_iconst (v := nI 3) (pc' := 125) C dL_matters_124 (by decide) rfl ?_
      refine g_iload (pc' := 127) C dL_matters_125 rfl rfl ?_
      refine g_iconst (v := nI 0) (pc' := 128) C dL_matters_127 (by decide) rfl ?_
      refine g_iconst (v := nI 0) (pc' := 129) C dL_matters_128 (by decide) rfl ?_
      refine g_iconst (v := nI 0) (pc' := 130) C dL_matters_129 (by decide) rfl ?_
      refine g_iconst (v := nI 0) (pc' := 131) C dL_matters_130 (by decide) rfl ?_
      refine x_callS (pc' := 134) (mc := 1) (ms := 6) (As := [.ref ((Kg K).2.2 0 0), .int (nI 3), .int (nI j), .int (nI 0), .int (nI 0), .int (nI 0), .int (nI 0)]) (S := []) C hR.k cw_L_calls (fun sz => w_c_decide hfl (S.s.oth hO).X (by rw [hcK I2 hO, hK, if_neg h1]; decide) sz) dL_matters_131 ⟨by decide +kernel, by decide +kernel, (by decide +kernel : (parseMethodDescriptor yL_calls.desc).map (fun d => d.parameters.length) = some 7)⟩ ⟨⟨Nat.le_of_ble_eq_true rfl, Nat.le_of_ble_eq_true rfl⟩, rfl, rfl⟩ rfl (Nat.le_of_ble_eq_true rfl) ⟨Nat.le_of_ble_eq_true rfl, Nat.le_of_ble_eq_true rfl⟩ rfl (fun sz' v' g' z' I' P' O' hA' hp => ?_)
      obtain ⟨qO, hp⟩ := hp
      rcases hp with ⟨hk, -⟩ | ⟨hk, q0, q1, q2, q3, q4⟩
      · exact absurd hk (by rw [hcK I2 hO, hK, if_neg h1]; decide)
      have S5 : Stt z nw I2 P J := S.oth hO S2
      rw [q0, q1, q2, q3, q4, qO, Kw_self]
      refine g_iload (pc' := 136) C dL_matters_134 rfl rfl ?_
      refine g_iconst (v := nI 1) (pc' := 137) C dL_matters_136 (by decide) rfl ?_
      refine g_icmp_neN (tgt := 145) (pc' := 140) C (by omega) (by omega) dL_matters_137 (by decide) rfl (fun c8 => ?_) (fun c8 => absurd c8 h1)
      refine g_ldc (v := (-100003)) (pc' := 147) C kL_46 dL_matters_145 rfl ?_
      refine g_icmp_ne (tgt := 154) (pc' := 150) C dL_matters_147 (by decide) rfl (fun c9 => absurd rfl c9) (fun c9 => ?_)
      refine g_iconst (v := nI 1) (pc' := 151) C dL_matters_150 (by decide) rfl ?_
      refine g_goto (tgt := 155) C dL_matters_151 (by decide) ?_
      exact x_zret C hR dL_matters_155 rfl (Nat.le_of_ble_eq_true rfl) (Nat.le_of_ble_eq_true rfl) ⟨rfl, by rw [nI1'], Gr.rf, _, S5⟩
set_option maxRecDepth 20000 in
theorem l_appeal {K : wK} {z : wZ} {I : wI} {P : wP} {O : wO} {nw : Nat} {J : wI} {sz : Nat} (hfl : (Kl K).stackTraces = false) (C : Cx K cL_matters RL 14 (some .boolean) { frames := 8, cells := 2, slots := 14, locals := 150 } z) (hR : Rq K (Kg K) z sz I P O 2 14 (oP (Kg K) z sz nw O) (fun _ => False)) (S : Stt z nw I P J) (hz : 0 < z.1) {v : Int32} : G K z I P O 0 0 0 [(0, .ref ((Kg K).2.2 0 0)), (1, .int (nI 1)), (2, .int v), (3, .ref ((Kg K).2.2 13 0)), (4, .ref ((Kg K).2.2 13 1)), (5, .ref ((Kg K).2.2 13 2)), (6, .ref ((Kg K).2.2 13 3)), (7, .ref ((Kg K).2.2 13 4)), (8, .ref ((Kg K).2.2 13 5)), (9, .ref ((Kg K).2.2 13 6))] [] := by
  refine l_mt0 hfl C hR S hz (fun j hj => ?_)
  have hM8 := S.y.M8
  have hN16 := S.y.N16
  obtain ⟨a0, -, a2, -, -, a5, a6, a7, a8, -⟩ := S.y.m.2.1 j hj
  have a0n : I 13 0 (8 * j) = nI (stN J j) := a0.trans a7
  have hK := K5_v S.y hj
  have hcK : ∀ I2, Oth I I2 → cK5 I2 z.1 (nI j) = mK5 J z.1 (nI j) := fun I2 hO => cK5_eq (S.s.oth hO)
  obtain ⟨e8, e86⟩ := S.s.M.fs hj
  have ew : I 13 5 (8 + mf J j) = J 13 4 (mf J j) := (S.y.w.2 _ e86).1
  have no_ : ¬ (stN J j = 2 ∧ 0 ≤ J 13 11 j) → G K z I P O 0 0 183 [(0, .ref ((Kg K).2.2 0 0)), (1, .int (nI 1)), (2, .int v), (3, .ref ((Kg K).2.2 13 0)), (4, .ref ((Kg K).2.2 13 1)), (5, .ref ((Kg K).2.2 13 2)), (6, .ref ((Kg K).2.2 13 3)), (7, .ref ((Kg K).2.2 13 4)), (8, .ref ((Kg K).2.2 13 5)), (9, .ref ((Kg K).2.2 13 6)), (10, .int (nI j)), (11, .int (nI (stN J j)))] [] := by
    intro hno
    refine g_iconst (v := nI 0) (pc' := 184) C dL_matters_183 (by decide) rfl ?_
    refine g_istore (pc' := 186) C dL_matters_184 rfl rfl ?_
    refine g_aload_n (pc' := 187) C dL_matters_186 rfl rfl ?_
    refine g_bipush (v := nI 8) (pc' := 189) C dL_matters_187 (by decide) rfl ?_
    refine g_iload (pc' := 191) C dL_matters_189 rfl rfl ?_
    refine g_imulN (pc' := 192) C dL_matters_191 rfl ?_
    refine g_iload (pc' := 194) C dL_matters_192 rfl rfl ?_
    refine g_if_eq (tgt := 201) (pc' := 197) C dL_matters_194 (by decide) rfl (fun c1 => ?_) (fun c1 => absurd (by decide) c1)
    refine g_iload (pc' := 203) C dL_matters_201 rfl rfl ?_
    refine g_iast (pc' := 204) C (8 * j) rfl (by show _ < 64; omega) dL_matters_203 (al13 rfl) (fun _ => rfl) rfl rfl ?_
    have S2 : YS (fun _ => False) z nw J ((upI I 13 0 (8 * j) (nI (stN J j))) 13) := by
      rw [upI_13]
      have q := S.y.st hj (v := nI (stN J j)) (by rw [nI_clamp (by omega)]) (by rw [nI_clamp (by omega)]; exact a8)
      rw [← a7, upI_self] at q
      rw [a7] at q
      exact q
    have hO : Oth I (upI I 13 0 (8 * j) (nI (stN J j))) := Oth.rf.up
    generalize (upI I 13 0 (8 * j) (nI (stN J j))) = I2 at S2 hO ⊢
    refine g_aload_n (pc' := 205) C dL_matters_204 rfl rfl ?_
    refine g_bipush (v := nI 8) (pc' := 207) C dL_matters_205 (by decide) rfl ?_
    refine g_iload (pc' := 209) C dL_matters_207 rfl rfl ?_
    refine g_imulN (pc' := 210) C dL_matters_209 rfl ?_
    refine g_iconst (v := nI 5) (pc' := 211) C dL_matters_210 (by decide) rfl ?_
    refine g_iaddN (pc' := 212) C dL_matters_211 rfl ?_
    refine g_dup2 (pc' := 213) C dL_matters_212 rfl rfl rfl ?_
    refine g_iald (pc' := 214) C (8 * j + 5) rfl (by show _ < 64; omega) dL_matters_213 (al13 rfl) rfl rfl rfl ?_
    rw [(S2.m.2.1 j hj).2.2.2.2.2.1]
    refine g_iload (pc' := 216) C dL_matters_214 rfl rfl ?_
    refine g_if_eq (tgt := 242) (pc' := 219) C dL_matters_216 (by decide) rfl (fun c2 => ?_) (fun c2 => absurd (by decide) c2)
    refine g_iconst (v := nI 0) (pc' := 243) C dL_matters_242 (by decide) rfl ?_
    refine g_isub (pc' := 244) C dL_matters_243 rfl ?_
    refine g_iast (pc' := 245) C (8 * j + 5) rfl (by show _ < 64; omega) dL_matters_244 (al13 rfl) (fun _ => rfl) rfl rfl ?_
    have S3 : YS (fun _ => False) z nw J ((upI I2 13 0 (8 * j + 5) ((J 13 11 j) - nI 0)) 13) := by
      rw [upI_13]
      have q := S2.bal hj (v := J 13 11 j)
      rw [upI_self] at q
      rw [show nI 0 = 0 from nI_0, Int32.sub_zero]
      exact q
    have hO3 : Oth I (upI I2 13 0 (8 * j + 5) ((J 13 11 j) - nI 0)) := hO.up
    generalize (upI I2 13 0 (8 * j + 5) ((J 13 11 j) - nI 0)) = I3 at S3 hO3 ⊢
    refine g_aload_n (pc' := 246) C dL_matters_245 rfl rfl ?_
    refine g_iconst (v := nI 4) (pc' := 247) C dL_matters_246 (by decide) rfl ?_
    refine g_iload (pc' := 249) C dL_matters_247 rfl rfl ?_
    refine g_iconst (v := nI 0) (pc' := 250) C dL_matters_249 (by decide) rfl ?_
    refine g_iconst (v := nI 0) (pc' := 251) C dL_matters_250 (by decide) rfl ?_
    refine g_iconst (v := nI 0) (pc' := 252) C dL_matters_251 (by decide) rfl ?_
    refine g_iconst (v := nI 0) (pc' := 253) C dL_matters_252 (by decide) rfl ?_
    refine x_callS (pc' := 256) (mc := 1) (ms := 6) (As := [.ref ((Kg K).2.2 0 0), .int (nI 4), .int (nI j), .int (nI 0), .int (nI 0), .int (nI 0), .int (nI 0)]) (S := []) C hR.k cw_L_calls (fun sz => w_c_appeal hfl (S.s.oth hO3).X (by rw [hcK I3 hO3, hK, if_neg hno]; decide) sz) dL_matters_253 ⟨by decide +kernel, by decide +kernel, (by decide +kernel : (parseMethodDescriptor yL_calls.desc).map (fun d => d.parameters.length) = some 7)⟩ ⟨⟨Nat.le_of_ble_eq_true rfl, Nat.le_of_ble_eq_true rfl⟩, rfl, rfl⟩ rfl (Nat.le_of_ble_eq_true rfl) ⟨Nat.le_of_ble_eq_true rfl, Nat.le_of_ble_eq_true rfl⟩ rfl (fun sz' v' g' z' I' P' O' hA' hp => ?_)
    obtain ⟨qO, hp⟩ := hp
    rcases hp with ⟨hk, -⟩ | ⟨hk, q0, q1, q2, q3, q4⟩
    · exact absurd hk (by rw [hcK I3 hO3, hK, if_neg hno]; decide)
    have S5 : Stt z nw I3 P J := S.oth hO3 S3
    rw [q0, q1, q2, q3, q4, qO, Kw_self]
    refine g_iload (pc' := 258) C dL_matters_256 rfl rfl ?_
    refine g_if_eq (tgt := 273) (pc' := 261) C dL_matters_258 (by decide) rfl (fun c3 => ?_) (fun c3 => absurd (by decide) c3)
    refine g_ldc (v := (-100003)) (pc' := 275) C kL_46 dL_matters_273 rfl ?_
    refine g_icmp_ne (tgt := 282) (pc' := 278) C dL_matters_275 (by decide) rfl (fun c4 => absurd rfl c4) (fun c4 => ?_)
    refine g_iconst (v := nI 1) (pc' := 279) C dL_matters_278 (by decide) rfl ?_
    refine g_goto (tgt := 283) C dL_matters_279 (by decide) ?_
    exact x_zret C hR dL_matters_283 rfl (Nat.le_of_ble_eq_true rfl) (Nat.le_of_ble_eq_true rfl) ⟨rfl, by rw [nI1'], Gr.rf, _, S5⟩
  have yes_ : (stN J j = 2 ∧ 0 ≤ J 13 11 j) → G K z I P O 0 0 179 [(0, .ref ((Kg K).2.2 0 0)), (1, .int (nI 1)), (2, .int v), (3, .ref ((Kg K).2.2 13 0)), (4, .ref ((Kg K).2.2 13 1)), (5, .ref ((Kg K).2.2 13 2)), (6, .ref ((Kg K).2.2 13 3)), (7, .ref ((Kg K).2.2 13 4)), (8, .ref ((Kg K).2.2 13 5)), (9, .ref ((Kg K).2.2 13 6)), (10, .int (nI j)), (11, .int (nI (stN J j)))] [] := by
    intro hyes
    refine g_iconst (v := nI 1) (pc' := 180) C dL_matters_179 (by decide) rfl ?_
    refine g_goto (tgt := 184) C dL_matters_180 (by decide) ?_
    refine g_istore (pc' := 186) C dL_matters_184 rfl rfl ?_
    refine g_aload_n (pc' := 187) C dL_matters_186 rfl rfl ?_
    refine g_bipush (v := nI 8) (pc' := 189) C dL_matters_187 (by decide) rfl ?_
    refine g_iload (pc' := 191) C dL_matters_189 rfl rfl ?_
    refine g_imulN (pc' := 192) C dL_matters_191 rfl ?_
    refine g_iload (pc' := 194) C dL_matters_192 rfl rfl ?_
    refine g_if_eq (tgt := 201) (pc' := 197) C dL_matters_194 (by decide) rfl (fun c1 => absurd c1 (by decide)) (fun c1 => ?_)
    refine g_iconst (v := nI 3) (pc' := 198) C dL_matters_197 (by decide) rfl ?_
    refine g_goto (tgt := 203) C dL_matters_198 (by decide) ?_
    refine g_iast (pc' := 204) C (8 * j) rfl (by show _ < 64; omega) dL_matters_203 (al13 rfl) (fun _ => rfl) rfl rfl ?_
    have S2 : YS (fun _ => False) z nw (upI J 13 6 j 3) ((upI I 13 0 (8 * j) (nI 3)) 13) := by
      rw [upI_13]
      exact S.y.st hj (v := 3) (by decide) (by decide)
    have hO : Oth I (upI I 13 0 (8 * j) (nI 3)) := Oth.rf.up
    have b2 : (upI I 13 0 (8 * j) (nI 3)) 13 0 (8 * j + 2) = nI (mf J j) := by rw [upI_at, if_neg (by omega)]; exact a2.trans e8
    have b5 : (upI I 13 0 (8 * j) (nI 3)) 13 0 (8 * j + 5) = J 13 11 j := by rw [upI_at, if_neg (by omega)]; exact a5
    have ew2 : (upI I 13 0 (8 * j) (nI 3)) 13 5 (8 + mf J j) = J 13 4 (mf J j) := by rw [upI_at, if_neg (by omega)]; exact ew
    generalize (upI I 13 0 (8 * j) (nI 3)) = I2 at S2 hO b2 b5 ew2 ⊢
    refine g_aload_n (pc' := 205) C dL_matters_204 rfl rfl ?_
    refine g_bipush (v := nI 8) (pc' := 207) C dL_matters_205 (by decide) rfl ?_
    refine g_iload (pc' := 209) C dL_matters_207 rfl rfl ?_
    refine g_imulN (pc' := 210) C dL_matters_209 rfl ?_
    refine g_iconst (v := nI 5) (pc' := 211) C dL_matters_210 (by decide) rfl ?_
    refine g_iaddN (pc' := 212) C dL_matters_211 rfl ?_
    refine g_dup2 (pc' := 213) C dL_matters_212 rfl rfl rfl ?_
    refine g_iald (pc' := 214) C (8 * j + 5) rfl (by show _ < 64; omega) dL_matters_213 (al13 rfl) rfl rfl rfl ?_
    rw [b5]
    refine g_iload (pc' := 216) C dL_matters_214 rfl rfl ?_
    refine g_if_eq (tgt := 242) (pc' := 219) C dL_matters_216 (by decide) rfl (fun c2 => absurd c2 (by decide)) (fun c2 => ?_)
    refine g_aload (pc' := 221) C dL_matters_219 rfl rfl ?_
    refine g_bipush (v := nI 8) (pc' := 223) C dL_matters_221 (by decide) rfl ?_
    refine g_aload_n (pc' := 224) C dL_matters_223 rfl rfl ?_
    refine g_bipush (v := nI 8) (pc' := 226) C dL_matters_224 (by decide) rfl ?_
    refine g_iload (pc' := 228) C dL_matters_226 rfl rfl ?_
    refine g_imulN (pc' := 229) C dL_matters_228 rfl ?_
    refine g_iconst (v := nI 2) (pc' := 230) C dL_matters_229 (by decide) rfl ?_
    refine g_iaddN (pc' := 231) C dL_matters_230 rfl ?_
    refine g_iald (pc' := 232) C (8 * j + 2) rfl (by show _ < 64; omega) dL_matters_231 (al13 rfl) rfl rfl rfl ?_
    rw [b2]
    refine g_iaddN (pc' := 233) C dL_matters_232 rfl ?_
    refine g_iald (pc' := 234) C (8 + mf J j) rfl (by show _ < 14; omega) dL_matters_233 (al13 rfl) rfl rfl rfl ?_
    rw [ew2]
    refine g_if_ne (tgt := 242) (pc' := 237) C dL_matters_234 (by decide) rfl (fun c3 => ?_) (fun c3 => ?_)
    ·
      have fw : ¬ J 13 4 (mf J j) = 0 := c3
      refine g_iconst (v := nI 0) (pc' := 243) C dL_matters_242 (by decide) rfl ?_
      refine g_isub (pc' := 244) C dL_matters_243 rfl ?_
      refine g_iast (pc' := 245) C (8 * j + 5) rfl (by show _ < 64; omega) dL_matters_244 (al13 rfl) (fun _ => rfl) rfl rfl ?_
      have hb : J 13 11 j - nI 0 = J 13 11 j - mFe J j 80 := by unfold mFe; rw [if_neg fw]; rfl
      have S3 : YS (fun _ => False) z nw (upI (upI J 13 6 j 3) 13 11 j (J 13 11 j - nI 0)) ((upI I2 13 0 (8 * j + 5) ((J 13 11 j) - nI 0)) 13) := by
        rw [upI_13]
        exact S2.bal hj
      have hO3 : Oth I (upI I2 13 0 (8 * j + 5) ((J 13 11 j) - nI 0)) := hO.up
      generalize (upI I2 13 0 (8 * j + 5) ((J 13 11 j) - nI 0)) = I3 at S3 hO3 ⊢
      refine g_aload_n (pc' := 246) C dL_matters_245 rfl rfl ?_
      refine g_iconst (v := nI 4) (pc' := 247) C dL_matters_246 (by decide) rfl ?_
      refine g_iload (pc' := 249) C dL_matters_247 rfl rfl ?_
      refine g_iconst (v := nI 0) (pc' := 250) C dL_matters_249 (by decide) rfl ?_
      refine g_iconst (v := nI 0) (pc' := 251) C dL_matters_250 (by decide) rfl ?_
      refine g_iconst (v := nI 0) (pc' := 252) C dL_matters_251 (by decide) rfl ?_
      refine g_iconst (v := nI 0) (pc' := 253) C dL_matters_252 (by decide) rfl ?_
      refine x_callS (pc' := 256) (mc := 1) (ms := 6) (As := [.ref ((Kg K).2.2 0 0), .int (nI 4), .int (nI j), .int (nI 0), .int (nI 0), .int (nI 0), .int (nI 0)]) (S := []) C hR.k cw_L_calls (fun sz => w_c_appeal hfl (S.s.oth hO3).X (by rw [hcK I3 hO3, hK, if_pos hyes]; decide) sz) dL_matters_253 ⟨by decide +kernel, by decide +kernel, (by decide +kernel : (parseMethodDescriptor yL_calls.desc).map (fun d => d.parameters.length) = some 7)⟩ ⟨⟨Nat.le_of_ble_eq_true rfl, Nat.le_of_ble_eq_true rfl⟩, rfl, rfl⟩ rfl (Nat.le_of_ble_eq_true rfl) ⟨Nat.le_of_ble_eq_true rfl, Nat.le_of_ble_eq_true rfl⟩ rfl (fun sz' v' g' z' I' P' O' hA' hp => ?_)
      obtain ⟨qO, hp⟩ := hp
      rcases hp with ⟨hk, q0, ⟨q1, q2⟩, q3, q4⟩ | ⟨hk, -⟩
      case inr => exact absurd ((hcK I3 hO3).trans (by rw [hK, if_pos hyes])) hk
      obtain ⟨S5, e5⟩ := fin_appeal S hO3 hj hyes hb S3
      subst q1
      subst q2
      rw [Kw_self, q0, q3, q4, qO, e5]
      generalize J 13 11 j - nI 0 = bb at S5 ⊢
      have b5' : cO5 I3 (nI j) 13 0 (8 * j + 5) = bb := (S5.y.m.2.1 j hj).2.2.2.2.2.1.trans (by rw [th_13, upI_at, if_pos ⟨rfl, rfl, rfl⟩])
      generalize cO5 I3 (nI j) = I5 at S5 b5' ⊢
      refine g_iload (pc' := 258) C dL_matters_256 rfl rfl ?_
      refine g_if_eq (tgt := 273) (pc' := 261) C dL_matters_258 (by decide) rfl (fun c4 => absurd c4 (by decide)) (fun c4 => ?_)
      refine g_aload_n (pc' := 262) C dL_matters_261 rfl rfl ?_
      refine g_bipush (v := nI 8) (pc' := 264) C dL_matters_262 (by decide) rfl ?_
      refine g_iload (pc' := 266) C dL_matters_264 rfl rfl ?_
      refine g_imulN (pc' := 267) C dL_matters_266 rfl ?_
      refine g_iconst (v := nI 5) (pc' := 268) C dL_matters_267 (by decide) rfl ?_
      refine g_iaddN (pc' := 269) C dL_matters_268 rfl ?_
      refine g_iald (pc' := 270) C (8 * j + 5) rfl (by show _ < 64; omega) dL_matters_269 (al13 rfl) rfl rfl rfl ?_
      rw [b5']
      refine g_goto (tgt := 275) C dL_matters_270 (by decide) ?_
      refine g_icmp_ne (tgt := 282) (pc' := 278) C dL_matters_275 (by decide) rfl (fun c5 => absurd rfl c5) (fun c5 => ?_)
      refine g_iconst (v := nI 1) (pc' := 279) C dL_matters_278 (by decide) rfl ?_
      refine g_goto (tgt := 283) C dL_matters_279 (by decide) ?_
      exact x_zret C hR dL_matters_283 rfl (Nat.le_of_ble_eq_true rfl) (Nat.le_of_ble_eq_true rfl) ⟨rfl, by rw [nI1'], Gr.rf, _, S5⟩
    ·
      have fw : J 13 4 (mf J j) = 0 := c3
      refine g_bipush (v := nI 80) (pc' := 239) C dL_matters_237 (by decide) rfl ?_
      refine g_goto (tgt := 243) C dL_matters_239 (by decide) ?_
      refine g_isub (pc' := 244) C dL_matters_243 rfl ?_
      refine g_iast (pc' := 245) C (8 * j + 5) rfl (by show _ < 64; omega) dL_matters_244 (al13 rfl) (fun _ => rfl) rfl rfl ?_
      have hb : J 13 11 j - nI 80 = J 13 11 j - mFe J j 80 := by unfold mFe; rw [if_pos fw]; rfl
      have S3 : YS (fun _ => False) z nw (upI (upI J 13 6 j 3) 13 11 j (J 13 11 j - nI 80)) ((upI I2 13 0 (8 * j + 5) ((J 13 11 j) - nI 80)) 13) := by
        rw [upI_13]
        exact S2.bal hj
      have hO3 : Oth I (upI I2 13 0 (8 * j + 5) ((J 13 11 j) - nI 80)) := hO.up
      generalize (upI I2 13 0 (8 * j + 5) ((J 13 11 j) - nI 80)) = I3 at S3 hO3 ⊢
      refine g_aload_n (pc' := 246) C dL_matters_245 rfl rfl ?_
      refine g_iconst (v := nI 4) (pc' := 247) C dL_matters_246 (by decide) rfl ?_
      refine g_iload (pc' := 249) C dL_matters_247 rfl rfl ?_
      refine g_iconst (v := nI 0) (pc' := 250) C dL_matters_249 (by decide) rfl ?_
      refine g_iconst (v := nI 0) (pc' := 251) C dL_matters_250 (by decide) rfl ?_
      refine g_iconst (v := nI 0) (pc' := 252) C dL_matters_251 (by decide) rfl ?_
      refine g_iconst (v := nI 0) (pc' := 253) C dL_matters_252 (by decide) rfl ?_
      refine x_callS (pc' := 256) (mc := 1) (ms := 6) (As := [.ref ((Kg K).2.2 0 0), .int (nI 4), .int (nI j), .int (nI 0), .int (nI 0), .int (nI 0), .int (nI 0)]) (S := []) C hR.k cw_L_calls (fun sz => w_c_appeal hfl (S.s.oth hO3).X (by rw [hcK I3 hO3, hK, if_pos hyes]; decide) sz) dL_matters_253 ⟨by decide +kernel, by decide +kernel, (by decide +kernel : (parseMethodDescriptor yL_calls.desc).map (fun d => d.parameters.length) = some 7)⟩ ⟨⟨Nat.le_of_ble_eq_true rfl, Nat.le_of_ble_eq_true rfl⟩, rfl, rfl⟩ rfl (Nat.le_of_ble_eq_true rfl) ⟨Nat.le_of_ble_eq_true rfl, Nat.le_of_ble_eq_true rfl⟩ rfl (fun sz' v' g' z' I' P' O' hA' hp => ?_)
      obtain ⟨qO, hp⟩ := hp
      rcases hp with ⟨hk, q0, ⟨q1, q2⟩, q3, q4⟩ | ⟨hk, -⟩
      case inr => exact absurd ((hcK I3 hO3).trans (by rw [hK, if_pos hyes])) hk
      obtain ⟨S5, e5⟩ := fin_appeal S hO3 hj hyes hb S3
      subst q1
      subst q2
      rw [Kw_self, q0, q3, q4, qO, e5]
      generalize J 13 11 j - nI 80 = bb at S5 ⊢
      have b5' : cO5 I3 (nI j) 13 0 (8 * j + 5) = bb := (S5.y.m.2.1 j hj).2.2.2.2.2.1.trans (by rw [th_13, upI_at, if_pos ⟨rfl, rfl, rfl⟩])
      generalize cO5 I3 (nI j) = I5 at S5 b5' ⊢
      refine g_iload (pc' := 258) C dL_matters_256 rfl rfl ?_
      refine g_if_eq (tgt := 273) (pc' := 261) C dL_matters_258 (by decide) rfl (fun c6 => absurd c6 (by decide)) (fun c6 => ?_)
      refine g_aload_n (pc' := 262) C dL_matters_261 rfl rfl ?_
      refine g_bipush (v := nI 8) (pc' := 264) C dL_matters_262 (by decide) rfl ?_
      refine g_iload (pc' := 266) C dL_matters_264 rfl rfl ?_
      refine g_imulN (pc' := 267) C dL_matters_266 rfl ?_
      refine g_iconst (v := nI 5) (pc' := 268) C dL_matters_267 (by decide) rfl ?_
      refine g_iaddN (pc' := 269) C dL_matters_268 rfl ?_
      refine g_iald (pc' := 270) C (8 * j + 5) rfl (by show _ < 64; omega) dL_matters_269 (al13 rfl) rfl rfl rfl ?_
      rw [b5']
      refine g_goto (tgt := 275) C dL_matters_270 (by decide) ?_
      refine g_icmp_ne (tgt := 282) (pc' := 278) C dL_matters_275 (by decide) rfl (fun c7 => absurd rfl c7) (fun c7 => ?_)
      refine g_iconst (v := nI 1) (pc' := 279) C dL_matters_278 (by decide) rfl ?_
      refine g_goto (tgt := 283) C dL_matters_279 (by decide) ?_
      exact x_zret C hR dL_matters_283 rfl (Nat.le_of_ble_eq_true rfl) (Nat.le_of_ble_eq_true rfl) ⟨rfl, by rw [nI1'], Gr.rf, _, S5⟩
  refine g_iload_n (pc' := 20) C dL_matters_19 rfl rfl ?_
  refine g_if_ne (tgt := 156) (pc' := 23) C dL_matters_20 (by decide) rfl (fun c1 => ?_) (fun c1 => absurd c1 (by decide))
  refine g_iload_n (pc' := 157) C dL_matters_156 rfl rfl ?_
  refine g_iconst (v := nI 1) (pc' := 158) C dL_matters_157 (by decide) rfl ?_
  refine g_icmp_neN (tgt := 284) (pc' := 161) C (by omega) (by omega) dL_matters_158 (by decide) rfl (fun c2 => absurd rfl c2) (fun c2 => ?_)
  refine g_iload (pc' := 163) C dL_matters_161 rfl rfl ?_
  refine g_iconst (v := nI 2) (pc' := 164) C dL_matters_163 (by decide) rfl ?_
  refine g_icmp_neN (tgt := 183) (pc' := 167) C (by omega) (by omega) dL_matters_164 (by decide) rfl (fun c3 => ?_) (fun c3 => ?_)
  ·
    have g1 : ¬ stN J j = 2 := c3
    exact G_pick [0, 1, 2, 3, 4, 5, 6, 7, 8, 9, 10, 11] rfl (no_ (fun q => g1 q.1))
  ·
    have g1 : stN J j = 2 := c3
    refine g_aload_n (pc' := 168) C dL_matters_167 rfl rfl ?_
    refine g_bipush (v := nI 8) (pc' := 170) C dL_matters_168 (by decide) rfl ?_
    refine g_iload (pc' := 172) C dL_matters_170 rfl rfl ?_
    refine g_imulN (pc' := 173) C dL_matters_172 rfl ?_
    refine g_iconst (v := nI 5) (pc' := 174) C dL_matters_173 (by decide) rfl ?_
    refine g_iaddN (pc' := 175) C dL_matters_174 rfl ?_
    refine g_iald (pc' := 176) C (8 * j + 5) rfl (by show _ < 64; omega) dL_matters_175 (al13 rfl) rfl rfl rfl ?_
    rw [a5]
    refine g_if_lt (tgt := 183) (pc' := 179) C dL_matters_176 (by decide) rfl (fun c4 => ?_) (fun c4 => ?_)
    ·
      have g2 : ¬ 0 ≤ J 13 11 j := Int32.not_le.mpr c4
      exact G_pick [0, 1, 2, 3, 4, 5, 6, 7, 8, 9, 10, 11] rfl (no_ (fun q => g2 q.2))
    ·
      have g2 : 0 ≤ J 13 11 j := Int32.not_lt.mp c4
      exact G_pick [0, 1, 2, 3, 4, 5, 6, 7, 8, 9, 10, 11] rfl (yes_ ⟨g1, g2⟩)
set_option maxRecDepth 20000 in
theorem l_settle {K : wK} {z : wZ} {I : wI} {P : wP} {O : wO} {nw : Nat} {J : wI} {sz : Nat} (hfl : (Kl K).stackTraces = false) (C : Cx K cL_matters RL 14 (some .boolean) { frames := 8, cells := 2, slots := 14, locals := 150 } z) (hR : Rq K (Kg K) z sz I P O 2 14 (oP (Kg K) z sz nw O) (fun _ => False)) (S : Stt z nw I P J) (hz : 0 < z.1) {v : Int32} : G K z I P O 0 0 0 [(0, .ref ((Kg K).2.2 0 0)), (1, .int (nI 2)), (2, .int v), (3, .ref ((Kg K).2.2 13 0)), (4, .ref ((Kg K).2.2 13 1)), (5, .ref ((Kg K).2.2 13 2)), (6, .ref ((Kg K).2.2 13 3)), (7, .ref ((Kg K).2.2 13 4)), (8, .ref ((Kg K).2.2 13 5)), (9, .ref ((Kg K).2.2 13 6))] [] := by
  refine l_mt0 hfl C hR S hz (fun j hj => ?_)
  have hM8 := S.y.M8
  have hN16 := S.y.N16
  obtain ⟨a0, -, a2, -, -, a5, a6, a7, a8, -⟩ := S.y.m.2.1 j hj
  have a0n : I 13 0 (8 * j) = nI (stN J j) := a0.trans a7
  have hK := Ks_v S.y hj (v := 3) (by omega) (s := 3) (by decide)
  have hcK : ∀ I2, Oth I I2 → cKs I2 z.1 (nI j) 3 = mKs J z.1 (nI j) 3 := fun I2 hO => cKs_eq (S.s.oth hO)
  refine g_iload_n (pc' := 20) C dL_matters_19 rfl rfl ?_
  refine g_if_ne (tgt := 156) (pc' := 23) C dL_matters_20 (by decide) rfl (fun c1 => ?_) (fun c1 => absurd c1 (by decide))
  refine g_iload_n (pc' := 157) C dL_matters_156 rfl rfl ?_
  refine g_iconst (v := nI 1) (pc' := 158) C dL_matters_157 (by decide) rfl ?_
  refine g_icmp_neN (tgt := 284) (pc' := 161) C (by omega) (by omega) dL_matters_158 (by decide) rfl (fun c2 => ?_) (fun c2 => absurd c2 (by decide))
  refine g_iload_n (pc' := 285) C dL_matters_284 rfl rfl ?_
  refine g_iconst (v := nI 2) (pc' := 286) C dL_matters_285 (by decide) rfl ?_
  refine g_icmp_neN (tgt := 369) (pc' := 289) C (by omega) (by omega) dL_matters_286 (by decide) rfl (fun c3 => absurd rfl c3) (fun c3 => ?_)
  refine g_iload_n (pc' := 290) C dL_matters_289 rfl rfl ?_
  refine g_iconst (v := nI 4) (pc' := 291) C dL_matters_290 (by decide) rfl ?_
  refine g_ishr (pc' := 292) C dL_matters_291 rfl ?_
  refine g_iconst (v := nI 2) (pc' := 293) C dL_matters_292 (by decide) rfl ?_
  refine g_callS (pc' := 296) (As := [.int (v >>> (nI 4 &&& 31)), .int (nI 2)]) (S := []) C cs_L_65 (w_low (b := 2) (by omega) (by omega)) dL_matters_293 ⟨rfl, by decide +kernel, by decide +kernel, (by decide +kernel : (parseMethodDescriptor yL_low.desc).map (fun d => d.parameters.length) = some 2)⟩ ⟨⟨Nat.le_of_ble_eq_true rfl, Nat.le_of_ble_eq_true rfl⟩, rfl, rfl⟩ rfl (Nat.le_of_ble_eq_true rfl) ⟨Nat.zero_le _, Nat.zero_le _⟩ rfl (fun v1 I1 P1 q => ?_)
  obtain ⟨rfl, q1, q2⟩ := q
  rw [q1, q2]
  obtain ⟨gr, hgr, egr⟩ : ∃ r, r < 2 ∧ lowN (v >>> (nI 4 &&& 31)) 2 = r := ⟨_, lowN_lt (by omega), rfl⟩
  rw [egr]
  rcases (show gr = 0 ∨ gr = 1 by omega) with rfl | rfl
  ·
    refine g_istore (pc' := 298) C dL_matters_296 rfl rfl ?_
    refine g_aload_n (pc' := 299) C dL_matters_298 rfl rfl ?_
    refine g_bipush (v := nI 8) (pc' := 301) C dL_matters_299 (by decide) rfl ?_
    refine g_iload (pc' := 303) C dL_matters_301 rfl rfl ?_
    refine g_imulN (pc' := 304) C dL_matters_303 rfl ?_
    refine g_iload (pc' := 306) C dL_matters_304 rfl rfl ?_
    refine g_iconst (v := nI 3) (pc' := 307) C dL_matters_306 (by decide) rfl ?_
    refine g_icmp_neN (tgt := 324) (pc' := 310) C (by omega) (by omega) dL_matters_307 (by decide) rfl (fun c1 => ?_) (fun c1 => ?_)
    ·
      have g1 : ¬ stN J j = 3 := c1
      refine g_iload (pc' := 326) C dL_matters_324 rfl rfl ?_
      refine g_iast (pc' := 327) C (8 * j) rfl (by show _ < 64; omega) dL_matters_326 (al13 rfl) (fun _ => rfl) rfl rfl ?_
      have S2 : YS (fun _ => False) z nw J ((upI I 13 0 (8 * j) (nI (stN J j))) 13) := by
        rw [upI_13]
        have q := S.y.st hj (v := nI (stN J j)) (by rw [nI_clamp (by omega)]) (by rw [nI_clamp (by omega)]; exact a8)
        rw [← a7, upI_self] at q
        rw [a7] at q
        exact q
      have hO : Oth I (upI I 13 0 (8 * j) (nI (stN J j))) := Oth.rf.up
      generalize (upI I 13 0 (8 * j) (nI (stN J j))) = I2 at S2 hO ⊢
      refine g_aload_n (pc' := 328) C dL_matters_327 rfl rfl ?_
      refine g_iconst (v := nI 5) (pc' := 329) C dL_matters_328 (by decide) rfl ?_
      refine g_iload (pc' := 331) C dL_matters_329 rfl rfl ?_
      refine g_iload (pc' := 333) C dL_matters_331 rfl rfl ?_
      refine g_iconst (v := nI 0) (pc' := 334) C dL_matters_333 (by decide) rfl ?_
      refine g_iconst (v := nI 0) (pc' := 335) C dL_matters_334 (by decide) rfl ?_
      refine g_iconst (v := nI 0) (pc' := 336) C dL_matters_335 (by decide) rfl ?_
      refine x_callS (pc' := 339) (mc := 1) (ms := 6) (As := [.ref ((Kg K).2.2 0 0), .int (nI 5), .int (nI j), .int (nI 0), .int (nI 0), .int (nI 0), .int (nI 0)]) (S := []) C hR.k cw_L_calls (fun sz => w_c_settle0 hfl (S.s.oth hO).X (by rw [hcK I2 hO, hK, if_neg g1]; decide) sz) dL_matters_336 ⟨by decide +kernel, by decide +kernel, (by decide +kernel : (parseMethodDescriptor yL_calls.desc).map (fun d => d.parameters.length) = some 7)⟩ ⟨⟨Nat.le_of_ble_eq_true rfl, Nat.le_of_ble_eq_true rfl⟩, rfl, rfl⟩ rfl (Nat.le_of_ble_eq_true rfl) ⟨Nat.le_of_ble_eq_true rfl, Nat.le_of_ble_eq_true rfl⟩ rfl (fun sz' v' g' z' I' P' O' hA' hp => ?_)
      obtain ⟨qO, hp⟩ := hp
      rcases hp with ⟨hk, -⟩ | ⟨hk, q0, q1, q2, q3, q4⟩
      · exact absurd hk (by rw [hcK I2 hO, hK, if_neg g1]; decide)
      have S5 : Stt z nw I2 P J := S.oth hO S2
      rw [q0, q1, q2, q3, q4, qO, Kw_self]
      refine g_iload (pc' := 341) C dL_matters_339 rfl rfl ?_
      refine g_iconst (v := nI 3) (pc' := 342) C dL_matters_341 (by decide) rfl ?_
      refine g_icmp_neN (tgt := 358) (pc' := 345) C (by omega) (by omega) dL_matters_342 (by decide) rfl (fun c2 => ?_) (fun c2 => absurd c2 g1)
      refine g_ldc (v := (-100003)) (pc' := 360) C kL_46 dL_matters_358 rfl ?_
      refine g_icmp_ne (tgt := 367) (pc' := 363) C dL_matters_360 (by decide) rfl (fun c3 => absurd rfl c3) (fun c3 => ?_)
      refine g_iconst (v := nI 1) (pc' := 364) C dL_matters_363 (by decide) rfl ?_
      refine g_goto (tgt := 368) C dL_matters_364 (by decide) ?_
      exact x_zret C hR dL_matters_368 rfl (Nat.le_of_ble_eq_true rfl) (Nat.le_of_ble_eq_true rfl) ⟨rfl, by rw [nI1'], Gr.rf, _, S5⟩
    ·
      have g1 : stN J j = 3 := c1
      refine g_iload (pc' := 312) C dL_matters_310 rfl rfl ?_
      refine g_iconst (v := nI 1) (pc' := 313) C dL_matters_312 (by decide) rfl ?_
      refine g_icmp_neN (tgt := 320) (pc' := 316) C (by omega) (by omega) dL_matters_313 (by decide) rfl (fun c4 => ?_) (fun c4 => absurd c4 (by decide))
      refine g_iconst (v := nI 2) (pc' := 321) C dL_matters_320 (by decide) rfl ?_
      refine g_goto (tgt := 326) C dL_matters_321 (by decide) ?_
      refine g_iast (pc' := 327) C (8 * j) rfl (by show _ < 64; omega) dL_matters_326 (al13 rfl) (fun _ => rfl) rfl rfl ?_
      have S2 : YS (fun _ => False) z nw (upI J 13 6 j (nI 2)) ((upI I 13 0 (8 * j) (nI 2)) 13) := by
        rw [upI_13]
        exact S.y.st hj (v := nI 2) (by decide) (by decide)
      have hO : Oth I (upI I 13 0 (8 * j) (nI 2)) := Oth.rf.up
      generalize (upI I 13 0 (8 * j) (nI 2)) = I2 at S2 hO ⊢
      refine g_aload_n (pc' := 328) C dL_matters_327 rfl rfl ?_
      refine g_iconst (v := nI 5) (pc' := 329) C dL_matters_328 (by decide) rfl ?_
      refine g_iload (pc' := 331) C dL_matters_329 rfl rfl ?_
      refine g_iload (pc' := 333) C dL_matters_331 rfl rfl ?_
      refine g_iconst (v := nI 0) (pc' := 334) C dL_matters_333 (by decide) rfl ?_
      refine g_iconst (v := nI 0) (pc' := 335) C dL_matters_334 (by decide) rfl ?_
      refine g_iconst (v := nI 0) (pc' := 336) C dL_matters_335 (by decide) rfl ?_
      refine x_callS (pc' := 339) (mc := 1) (ms := 6) (As := [.ref ((Kg K).2.2 0 0), .int (nI 5), .int (nI j), .int (nI 0), .int (nI 0), .int (nI 0), .int (nI 0)]) (S := []) C hR.k cw_L_calls (fun sz => w_c_settle0 hfl (S.s.oth hO).X (by rw [hcK I2 hO, hK, if_pos g1]; decide) sz) dL_matters_336 ⟨by decide +kernel, by decide +kernel, (by decide +kernel : (parseMethodDescriptor yL_calls.desc).map (fun d => d.parameters.length) = some 7)⟩ ⟨⟨Nat.le_of_ble_eq_true rfl, Nat.le_of_ble_eq_true rfl⟩, rfl, rfl⟩ rfl (Nat.le_of_ble_eq_true rfl) ⟨Nat.le_of_ble_eq_true rfl, Nat.le_of_ble_eq_true rfl⟩ rfl (fun sz' v' g' z' I' P' O' hA' hp => ?_)
      obtain ⟨qO, hp⟩ := hp
      rcases hp with ⟨hk, q0, ⟨q1, q2⟩, q3, q4⟩ | ⟨hk, -⟩
      case inr => exact absurd ((hcK I2 hO).trans (by rw [hK, if_pos g1])) hk
      obtain ⟨S5, e5⟩ := fin_settle (gr := 0) S hO hj g1 (b := nI 2) (by decide) S2
      subst q1
      subst q2
      rw [Kw_self, q0, q3, q4, qO, e5]
      have b6 : upI I2 2 (nI j).toNatClampNeg 5 (if nI 0 = 0 then 2 else 0) 13 0 (8 * j + 6) = J 13 12 j := (S5.y.m.2.1 j hj).2.2.2.2.2.2.1.trans (by rw [th_13, upI_at, if_neg (by omega)])
      generalize upI I2 2 (nI j).toNatClampNeg 5 (if nI 0 = 0 then 2 else 0) = I5 at S5 b6 ⊢
      refine g_iload (pc' := 341) C dL_matters_339 rfl rfl ?_
      refine g_iconst (v := nI 3) (pc' := 342) C dL_matters_341 (by decide) rfl ?_
      refine g_icmp_neN (tgt := 358) (pc' := 345) C (by omega) (by omega) dL_matters_342 (by decide) rfl (fun c5 => absurd g1 c5) (fun c5 => ?_)
      refine g_aload_n (pc' := 346) C dL_matters_345 rfl rfl ?_
      refine g_bipush (v := nI 8) (pc' := 348) C dL_matters_346 (by decide) rfl ?_
      refine g_iload (pc' := 350) C dL_matters_348 rfl rfl ?_
      refine g_imulN (pc' := 351) C dL_matters_350 rfl ?_
      refine g_bipush (v := nI 6) (pc' := 353) C dL_matters_351 (by decide) rfl ?_
      refine g_iaddN (pc' := 354) C dL_matters_353 rfl ?_
      refine g_iald (pc' := 355) C (8 * j + 6) rfl (by show _ < 64; omega) dL_matters_354 (al13 rfl) rfl rfl rfl ?_
      rw [b6]
      refine g_goto (tgt := 360) C dL_matters_355 (by decide) ?_
      refine g_icmp_ne (tgt := 367) (pc' := 363) C dL_matters_360 (by decide) rfl (fun c6 => absurd rfl c6) (fun c6 => ?_)
      refine g_iconst (v := nI 1) (pc' := 364) C dL_matters_363 (by decide) rfl ?_
      refine g_goto (tgt := 368) C dL_matters_364 (by decide) ?_
      exact x_zret C hR dL_matters_368 rfl (Nat.le_of_ble_eq_true rfl) (Nat.le_of_ble_eq_true rfl) ⟨rfl, by rw [nI1'], Gr.rf, _, S5⟩
  ·
    refine g_istore (pc' := 298) C dL_matters_296 rfl rfl ?_
    refine g_aload_n (pc' := 299) C dL_matters_298 rfl rfl ?_
    refine g_bipush (v := nI 8) (pc' := 301) C dL_matters_299 (by decide) rfl ?_
    refine g_iload (pc' := 303) C dL_matters_301 rfl rfl ?_
    refine g_imulN (pc' := 304) C dL_matters_303 rfl ?_
    refine g_iload (pc' := 306) C dL_matters_304 rfl rfl ?_
    refine g_iconst (v := nI 3) (pc' := 307) C dL_matters_306 (by decide) rfl ?_
    refine g_icmp_neN (tgt := 324) (pc' := 310) C (by omega) (by omega) dL_matters_307 (by decide) rfl (fun c1 => ?_) (fun c1 => ?_)
    ·
      have g1 : ¬ stN J j = 3 := c1
      refine g_iload (pc' := 326) C dL_matters_324 rfl rfl ?_
      refine g_iast (pc' := 327) C (8 * j) rfl (by show _ < 64; omega) dL_matters_326 (al13 rfl) (fun _ => rfl) rfl rfl ?_
      have S2 : YS (fun _ => False) z nw J ((upI I 13 0 (8 * j) (nI (stN J j))) 13) := by
        rw [upI_13]
        have q := S.y.st hj (v := nI (stN J j)) (by rw [nI_clamp (by omega)]) (by rw [nI_clamp (by omega)]; exact a8)
        rw [← a7, upI_self] at q
        rw [a7] at q
        exact q
      have hO : Oth I (upI I 13 0 (8 * j) (nI (stN J j))) := Oth.rf.up
      generalize (upI I 13 0 (8 * j) (nI (stN J j))) = I2 at S2 hO ⊢
      refine g_aload_n (pc' := 328) C dL_matters_327 rfl rfl ?_
      refine g_iconst (v := nI 5) (pc' := 329) C dL_matters_328 (by decide) rfl ?_
      refine g_iload (pc' := 331) C dL_matters_329 rfl rfl ?_
      refine g_iload (pc' := 333) C dL_matters_331 rfl rfl ?_
      refine g_iconst (v := nI 0) (pc' := 334) C dL_matters_333 (by decide) rfl ?_
      refine g_iconst (v := nI 0) (pc' := 335) C dL_matters_334 (by decide) rfl ?_
      refine g_iconst (v := nI 0) (pc' := 336) C dL_matters_335 (by decide) rfl ?_
      refine x_callS (pc' := 339) (mc := 1) (ms := 6) (As := [.ref ((Kg K).2.2 0 0), .int (nI 5), .int (nI j), .int (nI 1), .int (nI 0), .int (nI 0), .int (nI 0)]) (S := []) C hR.k cw_L_calls (fun sz => w_c_settle1 hfl (S.s.oth hO).X (by rw [hcK I2 hO, hK, if_neg g1]; decide) sz) dL_matters_336 ⟨by decide +kernel, by decide +kernel, (by decide +kernel : (parseMethodDescriptor yL_calls.desc).map (fun d => d.parameters.length) = some 7)⟩ ⟨⟨Nat.le_of_ble_eq_true rfl, Nat.le_of_ble_eq_true rfl⟩, rfl, rfl⟩ rfl (Nat.le_of_ble_eq_true rfl) ⟨Nat.le_of_ble_eq_true rfl, Nat.le_of_ble_eq_true rfl⟩ rfl (fun sz' v' g' z' I' P' O' hA' hp => ?_)
      obtain ⟨qO, hp⟩ := hp
      rcases hp with ⟨hk, -⟩ | ⟨hk, q0, q1, q2, q3, q4⟩
      · exact absurd hk (by rw [hcK I2 hO, hK, if_neg g1]; decide)
      have S5 : Stt z nw I2 P J := S.oth hO S2
      rw [q0, q1, q2, q3, q4, qO, Kw_self]
      refine g_iload (pc' := 341) C dL_matters_339 rfl rfl ?_
      refine g_iconst (v := nI 3) (pc' := 342) C dL_matters_341 (by decide) rfl ?_
      refine g_icmp_neN (tgt := 358) (pc' := 345) C (by omega) (by omega) dL_matters_342 (by decide) rfl (fun c2 => ?_) (fun c2 => absurd c2 g1)
      refine g_ldc (v := (-100003)) (pc' := 360) C kL_46 dL_matters_358 rfl ?_
      refine g_icmp_ne (tgt := 367) (pc' := 363) C dL_matters_360 (by decide) rfl (fun c3 => absurd rfl c3) (fun c3 => ?_)
      refine g_iconst (v := nI 1) (pc' := 364) C dL_matters_363 (by decide) rfl ?_
      refine g_goto (tgt := 368) C dL_matters_364 (by decide) ?_
      exact x_zret C hR dL_matters_368 rfl (Nat.le_of_ble_eq_true rfl) (Nat.le_of_ble_eq_true rfl) ⟨rfl, by rw [nI1'], Gr.rf, _, S5⟩
    ·
      have g1 : stN J j = 3 := c1
      refine g_iload (pc' := 312) C dL_matters_310 rfl rfl ?_
      refine g_iconst (v := nI 1) (pc' := 313) C dL_matters_312 (by decide) rfl ?_
      refine g_icmp_neN (tgt := 320) (pc' := 316) C (by omega) (by omega) dL_matters_313 (by decide) rfl (fun c4 => absurd rfl c4) (fun c4 => ?_)
      refine g_iconst (v := nI 0) (pc' := 317) C dL_matters_316 (by decide) rfl ?_
      refine g_goto (tgt := 326) C dL_matters_317 (by decide) ?_
      refine g_iast (pc' := 327) C (8 * j) rfl (by show _ < 64; omega) dL_matters_326 (al13 rfl) (fun _ => rfl) rfl rfl ?_
      have S2 : YS (fun _ => False) z nw (upI J 13 6 j (nI 0)) ((upI I 13 0 (8 * j) (nI 0)) 13) := by
        rw [upI_13]
        exact S.y.st hj (v := nI 0) (by decide) (by decide)
      have hO : Oth I (upI I 13 0 (8 * j) (nI 0)) := Oth.rf.up
      generalize (upI I 13 0 (8 * j) (nI 0)) = I2 at S2 hO ⊢
      refine g_aload_n (pc' := 328) C dL_matters_327 rfl rfl ?_
      refine g_iconst (v := nI 5) (pc' := 329) C dL_matters_328 (by decide) rfl ?_
      refine g_iload (pc' := 331) C dL_matters_329 rfl rfl ?_
      refine g_iload (pc' := 333) C dL_matters_331 rfl rfl ?_
      refine g_iconst (v := nI 0) (pc' := 334) C dL_matters_333 (by decide) rfl ?_
      refine g_iconst (v := nI 0) (pc' := 335) C dL_matters_334 (by decide) rfl ?_
      refine g_iconst (v := nI 0) (pc' := 336) C dL_matters_335 (by decide) rfl ?_
      refine x_callS (pc' := 339) (mc := 1) (ms := 6) (As := [.ref ((Kg K).2.2 0 0), .int (nI 5), .int (nI j), .int (nI 1), .int (nI 0), .int (nI 0), .int (nI 0)]) (S := []) C hR.k cw_L_calls (fun sz => w_c_settle1 hfl (S.s.oth hO).X (by rw [hcK I2 hO, hK, if_pos g1]; decide) sz) dL_matters_336 ⟨by decide +kernel, by decide +kernel, (by decide +kernel : (parseMethodDescriptor yL_calls.desc).map (fun d => d.parameters.length) = some 7)⟩ ⟨⟨Nat.le_of_ble_eq_true rfl, Nat.le_of_ble_eq_true rfl⟩, rfl, rfl⟩ rfl (Nat.le_of_ble_eq_true rfl) ⟨Nat.le_of_ble_eq_true rfl, Nat.le_of_ble_eq_true rfl⟩ rfl (fun sz' v' g' z' I' P' O' hA' hp => ?_)
      obtain ⟨qO, hp⟩ := hp
      rcases hp with ⟨hk, q0, ⟨q1, q2⟩, q3, q4⟩ | ⟨hk, -⟩
      case inr => exact absurd ((hcK I2 hO).trans (by rw [hK, if_pos g1])) hk
      obtain ⟨S5, e5⟩ := fin_settle (gr := 1) S hO hj g1 (b := nI 0) (by decide) S2
      subst q1
      subst q2
      rw [Kw_self, q0, q3, q4, qO, e5]
      have b6 : upI I2 2 (nI j).toNatClampNeg 5 (if nI 1 = 0 then 2 else 0) 13 0 (8 * j + 6) = J 13 12 j := (S5.y.m.2.1 j hj).2.2.2.2.2.2.1.trans (by rw [th_13, upI_at, if_neg (by omega)])
      generalize upI I2 2 (nI j).toNatClampNeg 5 (if nI 1 = 0 then 2 else 0) = I5 at S5 b6 ⊢
      refine g_iload (pc' := 341) C dL_matters_339 rfl rfl ?_
      refine g_iconst (v := nI 3) (pc' := 342) C dL_matters_341 (by decide) rfl ?_
      refine g_icmp_neN (tgt := 358) (pc' := 345) C (by omega) (by omega) dL_matters_342 (by decide) rfl (fun c5 => absurd g1 c5) (fun c5 => ?_)
      refine g_aload_n (pc' := 346) C dL_matters_345 rfl rfl ?_
      refine g_bipush (v := nI 8) (pc' := 348) C dL_matters_346 (by decide) rfl ?_
      refine g_iload (pc' := 350) C dL_matters_348 rfl rfl ?_
      refine g_imulN (pc' := 351) C dL_matters_350 rfl ?_
      refine g_bipush (v := nI 6) (pc' := 353) C dL_matters_351 (by decide) rfl ?_
      refine g_iaddN (pc' := 354) C dL_matters_353 rfl ?_
      refine g_iald (pc' := 355) C (8 * j + 6) rfl (by show _ < 64; omega) dL_matters_354 (al13 rfl) rfl rfl rfl ?_
      rw [b6]
      refine g_goto (tgt := 360) C dL_matters_355 (by decide) ?_
      refine g_icmp_ne (tgt := 367) (pc' := 363) C dL_matters_360 (by decide) rfl (fun c6 => absurd rfl c6) (fun c6 => ?_)
      refine g_iconst (v := nI 1) (pc' := 364) C dL_matters_363 (by decide) rfl ?_
      refine g_goto (tgt := 368) C dL_matters_364 (by decide) ?_
      exact x_zret C hR dL_matters_368 rfl (Nat.le_of_ble_eq_true rfl) (Nat.le_of_ble_eq_true rfl) ⟨rfl, by rw [nI1'], Gr.rf, _, S5⟩
set_option maxRecDepth 20000 in
theorem l_close {K : wK} {z : wZ} {I : wI} {P : wP} {O : wO} {nw : Nat} {J : wI} {sz : Nat} (hfl : (Kl K).stackTraces = false) (C : Cx K cL_matters RL 14 (some .boolean) { frames := 8, cells := 2, slots := 14, locals := 150 } z) (hR : Rq K (Kg K) z sz I P O 2 14 (oP (Kg K) z sz nw O) (fun _ => False)) (S : Stt z nw I P J) (hz : 0 < z.1) {v : Int32} : G K z I P O 0 0 0 [(0, .ref ((Kg K).2.2 0 0)), (1, .int (nI 3)), (2, .int v), (3, .ref ((Kg K).2.2 13 0)), (4, .ref ((Kg K).2.2 13 1)), (5, .ref ((Kg K).2.2 13 2)), (6, .ref ((Kg K).2.2 13 3)), (7, .ref ((Kg K).2.2 13 4)), (8, .ref ((Kg K).2.2 13 5)), (9, .ref ((Kg K).2.2 13 6))] [] := by
  refine l_mt0 hfl C hR S hz (fun j hj => ?_)
  have hM8 := S.y.M8
  have hN16 := S.y.N16
  obtain ⟨a0, -, a2, -, -, a5, a6, a7, a8, -⟩ := S.y.m.2.1 j hj
  have a0n : I 13 0 (8 * j) = nI (stN J j) := a0.trans a7
  have hK := Ks_v S.y hj (v := 2) (by omega) (s := 2) (by decide)
  have hcK : ∀ I2, Oth I I2 → cKs I2 z.1 (nI j) 2 = mKs J z.1 (nI j) 2 := fun I2 hO => cKs_eq (S.s.oth hO)
  refine g_iload_n (pc' := 20) C dL_matters_19 rfl rfl ?_
  refine g_if_ne (tgt := 156) (pc' := 23) C dL_matters_20 (by decide) rfl (fun c1 => ?_) (fun c1 => absurd c1 (by decide))
  refine g_iload_n (pc' := 157) C dL_matters_156 rfl rfl ?_
  refine g_iconst (v := nI 1) (pc' := 158) C dL_matters_157 (by decide) rfl ?_
  refine g_icmp_neN (tgt := 284) (pc' := 161) C (by omega) (by omega) dL_matters_158 (by decide) rfl (fun c2 => ?_) (fun c2 => absurd c2 (by decide))
  refine g_iload_n (pc' := 285) C dL_matters_284 rfl rfl ?_
  refine g_iconst (v := nI 2) (pc' := 286) C dL_matters_285 (by decide) rfl ?_
  refine g_icmp_neN (tgt := 369) (pc' := 289) C (by omega) (by omega) dL_matters_286 (by decide) rfl (fun c3 => ?_) (fun c3 => absurd c3 (by decide))
  refine g_iload_n (pc' := 370) C dL_matters_369 rfl rfl ?_
  refine g_iconst (v := nI 3) (pc' := 371) C dL_matters_370 (by decide) rfl ?_
  refine g_icmp_neN (tgt := 444) (pc' := 374) C (by omega) (by omega) dL_matters_371 (by decide) rfl (fun c4 => absurd rfl c4) (fun c4 => ?_)
  refine g_iload_n (pc' := 375) C dL_matters_374 rfl rfl ?_
  refine g_iconst (v := nI 5) (pc' := 376) C dL_matters_375 (by decide) rfl ?_
  refine g_ishr (pc' := 377) C dL_matters_376 rfl ?_
  refine g_iconst (v := nI 3) (pc' := 378) C dL_matters_377 (by decide) rfl ?_
  refine g_callS (pc' := 381) (As := [.int (v >>> (nI 5 &&& 31)), .int (nI 3)]) (S := []) C cs_L_65 (w_low (b := 3) (by omega) (by omega)) dL_matters_378 ⟨rfl, by decide +kernel, by decide +kernel, (by decide +kernel : (parseMethodDescriptor yL_low.desc).map (fun d => d.parameters.length) = some 2)⟩ ⟨⟨Nat.le_of_ble_eq_true rfl, Nat.le_of_ble_eq_true rfl⟩, rfl, rfl⟩ rfl (Nat.le_of_ble_eq_true rfl) ⟨Nat.zero_le _, Nat.zero_le _⟩ rfl (fun v1 I1 P1 q => ?_)
  obtain ⟨rfl, q1, q2⟩ := q
  rw [q1, q2]
  obtain ⟨b0, hb0, eb0⟩ : ∃ r, r < 3 ∧ lowN (v >>> (nI 5 &&& 31)) 3 = r := ⟨_, lowN_lt (by omega), rfl⟩
  rw [eb0]
  refine g_if_ne (tgt := 444) (pc' := 384) C dL_matters_381 (by decide) rfl (fun c5 => ?_) (fun c5 => ?_)
  ·
    skip
    refine g_iconst (v := nI 1) (pc' := 445) C dL_matters_444 (by decide) rfl ?_
    refine g_iload_n (pc' := 446) C dL_matters_445 rfl rfl ?_
    refine g_iconst (v := nI 4) (pc' := 447) C dL_matters_446 (by decide) rfl ?_
    refine g_ishr (pc' := 448) C dL_matters_447 rfl ?_
    refine g_sipush (v := nI 300) (pc' := 451) C dL_matters_448 (by decide) rfl ?_
    refine g_callS (pc' := 454) (As := [.int (v >>> (nI 4 &&& 31)), .int (nI 300)]) (S := [.int (nI 1)]) C cs_L_65 (w_low (b := 300) (by omega) (by omega)) dL_matters_451 ⟨rfl, by decide +kernel, by decide +kernel, (by decide +kernel : (parseMethodDescriptor yL_low.desc).map (fun d => d.parameters.length) = some 2)⟩ ⟨⟨Nat.le_of_ble_eq_true rfl, Nat.le_of_ble_eq_true rfl⟩, rfl, rfl⟩ rfl (Nat.le_of_ble_eq_true rfl) ⟨Nat.zero_le _, Nat.zero_le _⟩ rfl (fun v1 I1 P1 q => ?_)
    obtain ⟨rfl, q1, q2⟩ := q
    rw [q1, q2]
    obtain ⟨am, ham, eam⟩ : ∃ r, r < 300 ∧ lowN (v >>> (nI 4 &&& 31)) 300 = r := ⟨_, lowN_lt (by omega), rfl⟩
    rw [eam]
    refine g_iaddN (pc' := 455) C dL_matters_454 rfl ?_
    refine g_istore (pc' := 457) C dL_matters_455 rfl rfl ?_
    refine g_aload_n (pc' := 458) C dL_matters_457 rfl rfl ?_
    refine g_bipush (v := nI 8) (pc' := 460) C dL_matters_458 (by decide) rfl ?_
    refine g_iload (pc' := 462) C dL_matters_460 rfl rfl ?_
    refine g_imulN (pc' := 463) C dL_matters_462 rfl ?_
    refine g_iconst (v := nI 5) (pc' := 464) C dL_matters_463 (by decide) rfl ?_
    refine g_iaddN (pc' := 465) C dL_matters_464 rfl ?_
    refine g_dup2 (pc' := 466) C dL_matters_465 rfl rfl rfl ?_
    refine g_iald (pc' := 467) C (8 * j + 5) rfl (by show _ < 64; omega) dL_matters_466 (al13 rfl) rfl rfl rfl ?_
    rw [a5]
    refine g_iload (pc' := 469) C dL_matters_467 rfl rfl ?_
    refine g_iadd (pc' := 470) C dL_matters_469 rfl ?_
    refine g_iast (pc' := 471) C (8 * j + 5) rfl (by show _ < 64; omega) dL_matters_470 (al13 rfl) (fun _ => rfl) rfl rfl ?_
    have S2 : YS (fun _ => False) z nw (upI J 13 11 j (J 13 11 j + nI (1 + am))) ((upI I 13 0 (8 * j + 5) ((J 13 11 j) + nI (1 + am))) 13) := by
      rw [upI_13]
      exact S.y.bal hj
    have hO : Oth I (upI I 13 0 (8 * j + 5) ((J 13 11 j) + nI (1 + am))) := Oth.rf.up
    generalize (upI I 13 0 (8 * j + 5) ((J 13 11 j) + nI (1 + am))) = I2 at S2 hO ⊢
    have hK3 := cK3_v (a := 1 + am) hj hM8 (by omega) (by omega)
    refine g_aload_n (pc' := 472) C dL_matters_471 rfl rfl ?_
    refine g_iload (pc' := 474) C dL_matters_472 rfl rfl ?_
    refine g_iload (pc' := 476) C dL_matters_474 rfl rfl ?_
    refine x_callV (pc' := 479) (mc := 1) (ms := 6) (As := [.int (nI j), .int (nI (1 + am))]) (S := []) (post := fun _ => pX (cK3 z.1 (nI j) (nI (1 + am))) (Kg K) z (some (.int (I2 2 (nI j).toNatClampNeg 6 + nI (1 + am)))) (upI I2 2 (nI j).toNatClampNeg 6 (I2 2 (nI j).toNatClampNeg 6 + nI (1 + am))) P O) C hR.k cv_L_89 (fun sz => m_X3_pay hfl (S.s.oth hO).X sz) dL_matters_476 (by first | assumption | exact rfl | exact al13 rfl | exact Nat.le_of_ble_eq_true rfl) rfl rfl ⟨rfl, by decide +kernel, by decide +kernel, (by decide +kernel : (parseMethodDescriptor yX3_pay.desc).map (fun d => d.parameters.length) = some 2)⟩ ⟨⟨Nat.le_of_ble_eq_true rfl, Nat.le_of_ble_eq_true rfl⟩, rfl, rfl⟩ rfl (Nat.le_of_ble_eq_true rfl) ⟨Nat.le_of_ble_eq_true rfl, Nat.le_of_ble_eq_true rfl⟩ rfl (fun E hE => ?_) (fun sz' v' g' z' I' P' O' hA' hp => ?_)
    · obtain ⟨q, hq, hk⟩ := hE
      rw [hK3] at hk
      subst hk
      simp only [List.mem_cons, List.not_mem_nil, or_false, Prod.mk.injEq] at hq
      rcases hq with ⟨q, -⟩ | ⟨q, -⟩ <;> exact absurd q (by decide)
    obtain ⟨hk, rfl, rfl, rfl, rfl, rfl, rfl⟩ := hp
    rw [Kw_self]
    obtain ⟨S5, e5⟩ := fin_pay (a := 1 + am) S hO hj (by omega) (by omega) S2
    rw [show I2 2 (nI j).toNatClampNeg 6 + nI (1 + am) = J 13 11 j + nI (1 + am) from e5] at S5 ⊢
    have b5 : upI I2 2 (nI j).toNatClampNeg 6 (J 13 11 j + nI (1 + am)) 13 0 (8 * j + 5) = J 13 11 j + nI (1 + am) := (S5.y.m.2.1 j hj).2.2.2.2.2.1.trans (by rw [th_13, upI_at, if_pos ⟨rfl, rfl, rfl⟩])
    generalize upI I2 2 (nI j).toNatClampNeg 6 (J 13 11 j + nI (1 + am)) = I5 at S5 b5 ⊢
    refine g_aload_n (pc' := 480) C dL_matters_479 rfl rfl ?_
    refine g_bipush (v := nI 8) (pc' := 482) C dL_matters_480 (by decide) rfl ?_
    refine g_iload (pc' := 484) C dL_matters_482 rfl rfl ?_
    refine g_imulN (pc' := 485) C dL_matters_484 rfl ?_
    refine g_iconst (v := nI 5) (pc' := 486) C dL_matters_485 (by decide) rfl ?_
    refine g_iaddN (pc' := 487) C dL_matters_486 rfl ?_
    refine g_iald (pc' := 488) C (8 * j + 5) rfl (by show _ < 64; omega) dL_matters_487 (al13 rfl) rfl rfl rfl ?_
    rw [b5]
    refine g_icmp_ne (tgt := 495) (pc' := 491) C dL_matters_488 (by decide) rfl (fun c6 => absurd rfl c6) (fun c6 => ?_)
    refine g_iconst (v := nI 1) (pc' := 492) C dL_matters_491 (by decide) rfl ?_
    refine g_goto (tgt := 496) C dL_matters_492 (by decide) ?_
    exact x_zret C hR dL_matters_496 rfl (Nat.le_of_ble_eq_true rfl) (Nat.le_of_ble_eq_true rfl) ⟨rfl, by rw [nI1'], Gr.rf, _, S5⟩
  ·
    skip
    refine g_aload_n (pc' := 385) C dL_matters_384 rfl rfl ?_
    refine g_bipush (v := nI 8) (pc' := 387) C dL_matters_385 (by decide) rfl ?_
    refine g_iload (pc' := 389) C dL_matters_387 rfl rfl ?_
    refine g_imulN (pc' := 390) C dL_matters_389 rfl ?_
    refine g_iload (pc' := 392) C dL_matters_390 rfl rfl ?_
    refine g_iconst (v := nI 2) (pc' := 393) C dL_matters_392 (by decide) rfl ?_
    refine g_icmp_neN (tgt := 400) (pc' := 396) C (by omega) (by omega) dL_matters_393 (by decide) rfl (fun c7 => ?_) (fun c7 => ?_)
    ·
      have g1 : ¬ stN J j = 2 := c7
      refine g_iload (pc' := 402) C dL_matters_400 rfl rfl ?_
      refine g_iast (pc' := 403) C (8 * j) rfl (by show _ < 64; omega) dL_matters_402 (al13 rfl) (fun _ => rfl) rfl rfl ?_
      have S2 : YS (fun _ => False) z nw J ((upI I 13 0 (8 * j) (nI (stN J j))) 13) := by
        rw [upI_13]
        have q := S.y.st hj (v := nI (stN J j)) (by rw [nI_clamp (by omega)]) (by rw [nI_clamp (by omega)]; exact a8)
        rw [← a7, upI_self] at q
        rw [a7] at q
        exact q
      have hO : Oth I (upI I 13 0 (8 * j) (nI (stN J j))) := Oth.rf.up
      generalize (upI I 13 0 (8 * j) (nI (stN J j))) = I2 at S2 hO ⊢
      refine g_aload_n (pc' := 404) C dL_matters_403 rfl rfl ?_
      refine g_bipush (v := nI 6) (pc' := 406) C dL_matters_404 (by decide) rfl ?_
      refine g_iload (pc' := 408) C dL_matters_406 rfl rfl ?_
      refine g_iconst (v := nI 0) (pc' := 409) C dL_matters_408 (by decide) rfl ?_
      refine g_iconst (v := nI 0) (pc' := 410) C dL_matters_409 (by decide) rfl ?_
      refine g_iconst (v := nI 0) (pc' := 411) C dL_matters_410 (by decide) rfl ?_
      refine g_iconst (v := nI 0) (pc' := 412) C dL_matters_411 (by decide) rfl ?_
      refine x_callS (pc' := 415) (mc := 1) (ms := 6) (As := [.ref ((Kg K).2.2 0 0), .int (nI 6), .int (nI j), .int (nI 0), .int (nI 0), .int (nI 0), .int (nI 0)]) (S := []) C hR.k cw_L_calls (fun sz => w_c_close hfl (S.s.oth hO).X (by rw [hcK I2 hO, hK, if_neg g1]; decide) sz) dL_matters_412 ⟨by decide +kernel, by decide +kernel, (by decide +kernel : (parseMethodDescriptor yL_calls.desc).map (fun d => d.parameters.length) = some 7)⟩ ⟨⟨Nat.le_of_ble_eq_true rfl, Nat.le_of_ble_eq_true rfl⟩, rfl, rfl⟩ rfl (Nat.le_of_ble_eq_true rfl) ⟨Nat.le_of_ble_eq_true rfl, Nat.le_of_ble_eq_true rfl⟩ rfl (fun sz' v' g' z' I' P' O' hA' hp => ?_)
      obtain ⟨qO, hp⟩ := hp
      rcases hp with ⟨hk, -⟩ | ⟨hk, q0, q1, q2, q3, q4⟩
      · exact absurd hk (by rw [hcK I2 hO, hK, if_neg g1]; decide)
      have S5 : Stt z nw I2 P J := S.oth hO S2
      rw [q0, q1, q2, q3, q4, qO, Kw_self]
      refine g_iload (pc' := 417) C dL_matters_415 rfl rfl ?_
      refine g_iconst (v := nI 2) (pc' := 418) C dL_matters_417 (by decide) rfl ?_
      refine g_icmp_neN (tgt := 433) (pc' := 421) C (by omega) (by omega) dL_matters_418 (by decide) rfl (fun c8 => ?_) (fun c8 => absurd c8 g1)
      refine g_ldc (v := (-100003)) (pc' := 435) C kL_46 dL_matters_433 rfl ?_
      refine g_icmp_ne (tgt := 442) (pc' := 438) C dL_matters_435 (by decide) rfl (fun c9 => absurd rfl c9) (fun c9 => ?_)
      refine g_iconst (v := nI 1) (pc' := 439) C dL_matters_438 (by decide) rfl ?_
      refine g_goto (tgt := 443) C dL_matters_439 (by decide) ?_
      exact x_zret C hR dL_matters_443 rfl (Nat.le_of_ble_eq_true rfl) (Nat.le_of_ble_eq_true rfl) ⟨rfl, by rw [nI1'], Gr.rf, _, S5⟩
    ·
      have g1 : stN J j = 2 := c7
      refine g_iconst (v := nI 4) (pc' := 397) C dL_matters_396 (by decide) rfl ?_
      refine g_goto (tgt := 402) C dL_matters_397 (by decide) ?_
      refine g_iast (pc' := 403) C (8 * j) rfl (by show _ < 64; omega) dL_matters_402 (al13 rfl) (fun _ => rfl) rfl rfl ?_
      have S2 : YS (fun _ => False) z nw (upI J 13 6 j (nI 4)) ((upI I 13 0 (8 * j) (nI 4)) 13) := by
        rw [upI_13]
        exact S.y.st hj (v := nI 4) (by decide) (by decide)
      have hO : Oth I (upI I 13 0 (8 * j) (nI 4)) := Oth.rf.up
      generalize (upI I 13 0 (8 * j) (nI 4)) = I2 at S2 hO ⊢
      refine g_aload_n (pc' := 404) C dL_matters_403 rfl rfl ?_
      refine g_bipush (v := nI 6) (pc' := 406) C dL_matters_404 (by decide) rfl ?_
      refine g_iload (pc' := 408) C dL_matters_406 rfl rfl ?_
      refine g_iconst (v := nI 0) (pc' := 409) C dL_matters_408 (by decide) rfl ?_
      refine g_iconst (v := nI 0) (pc' := 410) C dL_matters_409 (by decide) rfl ?_
      refine g_iconst (v := nI 0) (pc' := 411) C dL_matters_410 (by decide) rfl ?_
      refine g_iconst (v := nI 0) (pc' := 412) C dL_matters_411 (by decide) rfl ?_
      refine x_callS (pc' := 415) (mc := 1) (ms := 6) (As := [.ref ((Kg K).2.2 0 0), .int (nI 6), .int (nI j), .int (nI 0), .int (nI 0), .int (nI 0), .int (nI 0)]) (S := []) C hR.k cw_L_calls (fun sz => w_c_close hfl (S.s.oth hO).X (by rw [hcK I2 hO, hK, if_pos g1]; decide) sz) dL_matters_412 ⟨by decide +kernel, by decide +kernel, (by decide +kernel : (parseMethodDescriptor yL_calls.desc).map (fun d => d.parameters.length) = some 7)⟩ ⟨⟨Nat.le_of_ble_eq_true rfl, Nat.le_of_ble_eq_true rfl⟩, rfl, rfl⟩ rfl (Nat.le_of_ble_eq_true rfl) ⟨Nat.le_of_ble_eq_true rfl, Nat.le_of_ble_eq_true rfl⟩ rfl (fun sz' v' g' z' I' P' O' hA' hp => ?_)
      obtain ⟨qO, hp⟩ := hp
      rcases hp with ⟨hk, q0, ⟨q1, q2⟩, q3, q4⟩ | ⟨hk, -⟩
      case inr => exact absurd ((hcK I2 hO).trans (by rw [hK, if_pos g1])) hk
      obtain ⟨S5, e5⟩ := fin_close S hO hj g1 S2
      subst q1
      subst q2
      rw [Kw_self, q0, q3, q4, qO, e5]
      have b5 : upI I2 2 (nI j).toNatClampNeg 5 4 13 0 (8 * j + 5) = J 13 11 j := (S5.y.m.2.1 j hj).2.2.2.2.2.1.trans (by rw [th_13, upI_at, if_neg (by omega)])
      generalize upI I2 2 (nI j).toNatClampNeg 5 4 = I5 at S5 b5 ⊢
      refine g_iload (pc' := 417) C dL_matters_415 rfl rfl ?_
      refine g_iconst (v := nI 2) (pc' := 418) C dL_matters_417 (by decide) rfl ?_
      refine g_icmp_neN (tgt := 433) (pc' := 421) C (by omega) (by omega) dL_matters_418 (by decide) rfl (fun c10 => absurd g1 c10) (fun c10 => ?_)
      refine g_aload_n (pc' := 422) C dL_matters_421 rfl rfl ?_
      refine g_bipush (v := nI 8) (pc' := 424) C dL_matters_422 (by decide) rfl ?_
      refine g_iload (pc' := 426) C dL_matters_424 rfl rfl ?_
      refine g_imulN (pc' := 427) C dL_matters_426 rfl ?_
      refine g_iconst (v := nI 5) (pc' := 428) C dL_matters_427 (by decide) rfl ?_
      refine g_iaddN (pc' := 429) C dL_matters_428 rfl ?_
      refine g_iald (pc' := 430) C (8 * j + 5) rfl (by show _ < 64; omega) dL_matters_429 (al13 rfl) rfl rfl rfl ?_
      rw [b5]
      refine g_goto (tgt := 435) C dL_matters_430 (by decide) ?_
      refine g_icmp_ne (tgt := 442) (pc' := 438) C dL_matters_435 (by decide) rfl (fun c11 => absurd rfl c11) (fun c11 => ?_)
      refine g_iconst (v := nI 1) (pc' := 439) C dL_matters_438 (by decide) rfl ?_
      refine g_goto (tgt := 443) C dL_matters_439 (by decide) ?_
      exact x_zret C hR dL_matters_443 rfl (Nat.le_of_ble_eq_true rfl) (Nat.le_of_ble_eq_true rfl) ⟨rfl, by rw [nI1'], Gr.rf, _, S5⟩
set_option maxRecDepth 20000 in
theorem l_pay {K : wK} {z : wZ} {I : wI} {P : wP} {O : wO} {nw : Nat} {J : wI} {sz : Nat} (hfl : (Kl K).stackTraces = false) (C : Cx K cL_matters RL 14 (some .boolean) { frames := 8, cells := 2, slots := 14, locals := 150 } z) (hR : Rq K (Kg K) z sz I P O 2 14 (oP (Kg K) z sz nw O) (fun _ => False)) (S : Stt z nw I P J) (hz : 0 < z.1) {v : Int32} : G K z I P O 0 0 0 [(0, .ref ((Kg K).2.2 0 0)), (1, .int (nI 4)), (2, .int v), (3, .ref ((Kg K).2.2 13 0)), (4, .ref ((Kg K).2.2 13 1)), (5, .ref ((Kg K).2.2 13 2)), (6, .ref ((Kg K).2.2 13 3)), (7, .ref ((Kg K).2.2 13 4)), (8, .ref ((Kg K).2.2 13 5)), (9, .ref ((Kg K).2.2 13 6))] [] := by
  refine l_mt0 hfl C hR S hz (fun j hj => ?_)
  have hM8 := S.y.M8
  have hN16 := S.y.N16
  obtain ⟨a0, -, a2, -, -, a5, a6, a7, a8, -⟩ := S.y.m.2.1 j hj
  have a0n : I 13 0 (8 * j) = nI (stN J j) := a0.trans a7
  have hK := Ks_v S.y hj (v := 2) (by omega) (s := 2) (by decide)
  have hcK : ∀ I2, Oth I I2 → cKs I2 z.1 (nI j) 2 = mKs J z.1 (nI j) 2 := fun I2 hO => cKs_eq (S.s.oth hO)
  refine g_iload_n (pc' := 20) C dL_matters_19 rfl rfl ?_
  refine g_if_ne (tgt := 156) (pc' := 23) C dL_matters_20 (by decide) rfl (fun c1 => ?_) (fun c1 => absurd c1 (by decide))
  refine g_iload_n (pc' := 157) C dL_matters_156 rfl rfl ?_
  refine g_iconst (v := nI 1) (pc' := 158) C dL_matters_157 (by decide) rfl ?_
  refine g_icmp_neN (tgt := 284) (pc' := 161) C (by omega) (by omega) dL_matters_158 (by decide) rfl (fun c2 => ?_) (fun c2 => absurd c2 (by decide))
  refine g_iload_n (pc' := 285) C dL_matters_284 rfl rfl ?_
  refine g_iconst (v := nI 2) (pc' := 286) C dL_matters_285 (by decide) rfl ?_
  refine g_icmp_neN (tgt := 369) (pc' := 289) C (by omega) (by omega) dL_matters_286 (by decide) rfl (fun c3 => ?_) (fun c3 => absurd c3 (by decide))
  refine g_iload_n (pc' := 370) C dL_matters_369 rfl rfl ?_
  refine g_iconst (v := nI 3) (pc' := 371) C dL_matters_370 (by decide) rfl ?_
  refine g_icmp_neN (tgt := 444) (pc' := 374) C (by omega) (by omega) dL_matters_371 (by decide) rfl (fun c4 => ?_) (fun c4 => absurd c4 (by decide))
  refine g_iconst (v := nI 1) (pc' := 445) C dL_matters_444 (by decide) rfl ?_
  refine g_iload_n (pc' := 446) C dL_matters_445 rfl rfl ?_
  refine g_iconst (v := nI 4) (pc' := 447) C dL_matters_446 (by decide) rfl ?_
  refine g_ishr (pc' := 448) C dL_matters_447 rfl ?_
  refine g_sipush (v := nI 300) (pc' := 451) C dL_matters_448 (by decide) rfl ?_
  refine g_callS (pc' := 454) (As := [.int (v >>> (nI 4 &&& 31)), .int (nI 300)]) (S := [.int (nI 1)]) C cs_L_65 (w_low (b := 300) (by omega) (by omega)) dL_matters_451 ⟨rfl, by decide +kernel, by decide +kernel, (by decide +kernel : (parseMethodDescriptor yL_low.desc).map (fun d => d.parameters.length) = some 2)⟩ ⟨⟨Nat.le_of_ble_eq_true rfl, Nat.le_of_ble_eq_true rfl⟩, rfl, rfl⟩ rfl (Nat.le_of_ble_eq_true rfl) ⟨Nat.zero_le _, Nat.zero_le _⟩ rfl (fun v1 I1 P1 q => ?_)
  obtain ⟨rfl, q1, q2⟩ := q
  rw [q1, q2]
  obtain ⟨am, ham, eam⟩ : ∃ r, r < 300 ∧ lowN (v >>> (nI 4 &&& 31)) 300 = r := ⟨_, lowN_lt (by omega), rfl⟩
  rw [eam]
  refine g_iaddN (pc' := 455) C dL_matters_454 rfl ?_
  refine g_istore (pc' := 457) C dL_matters_455 rfl rfl ?_
  refine g_aload_n (pc' := 458) C dL_matters_457 rfl rfl ?_
  refine g_bipush (v := nI 8) (pc' := 460) C dL_matters_458 (by decide) rfl ?_
  refine g_iload (pc' := 462) C dL_matters_460 rfl rfl ?_
  refine g_imulN (pc' := 463) C dL_matters_462 rfl ?_
  refine g_iconst (v := nI 5) (pc' := 464) C dL_matters_463 (by decide) rfl ?_
  refine g_iaddN (pc' := 465) C dL_matters_464 rfl ?_
  refine g_dup2 (pc' := 466) C dL_matters_465 rfl rfl rfl ?_
  refine g_iald (pc' := 467) C (8 * j + 5) rfl (by show _ < 64; omega) dL_matters_466 (al13 rfl) rfl rfl rfl ?_
  rw [a5]
  refine g_iload (pc' := 469) C dL_matters_467 rfl rfl ?_
  refine g_iadd (pc' := 470) C dL_matters_469 rfl ?_
  refine g_iast (pc' := 471) C (8 * j + 5) rfl (by show _ < 64; omega) dL_matters_470 (al13 rfl) (fun _ => rfl) rfl rfl ?_
  have S2 : YS (fun _ => False) z nw (upI J 13 11 j (J 13 11 j + nI (1 + am))) ((upI I 13 0 (8 * j + 5) ((J 13 11 j) + nI (1 + am))) 13) := by
    rw [upI_13]
    exact S.y.bal hj
  have hO : Oth I (upI I 13 0 (8 * j + 5) ((J 13 11 j) + nI (1 + am))) := Oth.rf.up
  generalize (upI I 13 0 (8 * j + 5) ((J 13 11 j) + nI (1 + am))) = I2 at S2 hO ⊢
  have hK3 := cK3_v (a := 1 + am) hj hM8 (by omega) (by omega)
  refine g_aload_n (pc' := 472) C dL_matters_471 rfl rfl ?_
  refine g_iload (pc' := 474) C dL_matters_472 rfl rfl ?_
  refine g_iload (pc' := 476) C dL_matters_474 rfl rfl ?_
  refine x_callV (pc' := 479) (mc := 1) (ms := 6) (As := [.int (nI j), .int (nI (1 + am))]) (S := []) (post := fun _ => pX (cK3 z.1 (nI j) (nI (1 + am))) (Kg K) z (some (.int (I2 2 (nI j).toNatClampNeg 6 + nI (1 + am)))) (upI I2 2 (nI j).toNatClampNeg 6 (I2 2 (nI j).toNatClampNeg 6 + nI (1 + am))) P O) C hR.k cv_L_89 (fun sz => m_X3_pay hfl (S.s.oth hO).X sz) dL_matters_476 (by first | assumption | exact rfl | exact al13 rfl | exact Nat.le_of_ble_eq_true rfl) rfl rfl ⟨rfl, by decide +kernel, by decide +kernel, (by decide +kernel : (parseMethodDescriptor yX3_pay.desc).map (fun d => d.parameters.length) = some 2)⟩ ⟨⟨Nat.le_of_ble_eq_true rfl, Nat.le_of_ble_eq_true rfl⟩, rfl, rfl⟩ rfl (Nat.le_of_ble_eq_true rfl) ⟨Nat.le_of_ble_eq_true rfl, Nat.le_of_ble_eq_true rfl⟩ rfl (fun E hE => ?_) (fun sz' v' g' z' I' P' O' hA' hp => ?_)
  · obtain ⟨q, hq, hk⟩ := hE
    rw [hK3] at hk
    subst hk
    simp only [List.mem_cons, List.not_mem_nil, or_false, Prod.mk.injEq] at hq
    rcases hq with ⟨q, -⟩ | ⟨q, -⟩ <;> exact absurd q (by decide)
  obtain ⟨hk, rfl, rfl, rfl, rfl, rfl, rfl⟩ := hp
  rw [Kw_self]
  obtain ⟨S5, e5⟩ := fin_pay (a := 1 + am) S hO hj (by omega) (by omega) S2
  rw [show I2 2 (nI j).toNatClampNeg 6 + nI (1 + am) = J 13 11 j + nI (1 + am) from e5] at S5 ⊢
  have b5 : upI I2 2 (nI j).toNatClampNeg 6 (J 13 11 j + nI (1 + am)) 13 0 (8 * j + 5) = J 13 11 j + nI (1 + am) := (S5.y.m.2.1 j hj).2.2.2.2.2.1.trans (by rw [th_13, upI_at, if_pos ⟨rfl, rfl, rfl⟩])
  generalize upI I2 2 (nI j).toNatClampNeg 6 (J 13 11 j + nI (1 + am)) = I5 at S5 b5 ⊢
  refine g_aload_n (pc' := 480) C dL_matters_479 rfl rfl ?_
  refine g_bipush (v := nI 8) (pc' := 482) C dL_matters_480 (by decide) rfl ?_
  refine g_iload (pc' := 484) C dL_matters_482 rfl rfl ?_
  refine g_imulN (pc' := 485) C dL_matters_484 rfl ?_
  refine g_iconst (v := nI 5) (pc' := 486) C dL_matters_485 (by decide) rfl ?_
  refine g_iaddN (pc' := 487) C dL_matters_486 rfl ?_
  refine g_iald (pc' := 488) C (8 * j + 5) rfl (by show _ < 64; omega) dL_matters_487 (al13 rfl) rfl rfl rfl ?_
  rw [b5]
  refine g_icmp_ne (tgt := 495) (pc' := 491) C dL_matters_488 (by decide) rfl (fun c5 => absurd rfl c5) (fun c5 => ?_)
  refine g_iconst (v := nI 1) (pc' := 492) C dL_matters_491 (by decide) rfl ?_
  refine g_goto (tgt := 496) C dL_matters_492 (by decide) ?_
  exact x_zret C hR dL_matters_496 rfl (Nat.le_of_ble_eq_true rfl) (Nat.le_of_ble_eq_true rfl) ⟨rfl, by rw [nI1'], Gr.rf, _, S5⟩
theorem w_mt_decide {l : Launch} (hfl : l.stackTraces = false) {g : wG} {z : wZ} {I : wI} {P : wP} {O : wO} {nw : Nat} {J : wI} {v : Int32} (S : Stt z nw I P J) (hz : 0 < z.1) (sz : Nat) : XT l yL_matters (.code yL_matters cL_matters 14 (some .boolean)) { frames := 8, cells := 2, slots := 14, locals := 150 } g z sz [.ref (g.2.2 0 0), .int (nI 0), .int v, .ref (g.2.2 13 0), .ref (g.2.2 13 1), .ref (g.2.2 13 2), .ref (g.2.2 13 3), .ref (g.2.2 13 4), .ref (g.2.2 13 5), .ref (g.2.2 13 6)] I P O 2 14 (oP g z sz nw O) (fun _ => False) := by
  refine XT.of (own := RL) rfl (by decide +kernel) hfl (Nat.le_of_ble_eq_true rfl) rfl (fun K C hl hg hR hT => ?_)
  subst hl
  subst hg
  exact l_decide hfl C hR S hz
theorem w_mt_appeal {l : Launch} (hfl : l.stackTraces = false) {g : wG} {z : wZ} {I : wI} {P : wP} {O : wO} {nw : Nat} {J : wI} {v : Int32} (S : Stt z nw I P J) (hz : 0 < z.1) (sz : Nat) : XT l yL_matters (.code yL_matters cL_matters 14 (some .boolean)) { frames := 8, cells := 2, slots := 14, locals := 150 } g z sz [.ref (g.2.2 0 0), .int (nI 1), .int v, .ref (g.2.2 13 0), .ref (g.2.2 13 1), .ref (g.2.2 13 2), .ref (g.2.2 13 3), .ref (g.2.2 13 4), .ref (g.2.2 13 5), .ref (g.2.2 13 6)] I P O 2 14 (oP g z sz nw O) (fun _ => False) := by
  refine XT.of (own := RL) rfl (by decide +kernel) hfl (Nat.le_of_ble_eq_true rfl) rfl (fun K C hl hg hR hT => ?_)
  subst hl
  subst hg
  exact l_appeal hfl C hR S hz
theorem w_mt_settle {l : Launch} (hfl : l.stackTraces = false) {g : wG} {z : wZ} {I : wI} {P : wP} {O : wO} {nw : Nat} {J : wI} {v : Int32} (S : Stt z nw I P J) (hz : 0 < z.1) (sz : Nat) : XT l yL_matters (.code yL_matters cL_matters 14 (some .boolean)) { frames := 8, cells := 2, slots := 14, locals := 150 } g z sz [.ref (g.2.2 0 0), .int (nI 2), .int v, .ref (g.2.2 13 0), .ref (g.2.2 13 1), .ref (g.2.2 13 2), .ref (g.2.2 13 3), .ref (g.2.2 13 4), .ref (g.2.2 13 5), .ref (g.2.2 13 6)] I P O 2 14 (oP g z sz nw O) (fun _ => False) := by
  refine XT.of (own := RL) rfl (by decide +kernel) hfl (Nat.le_of_ble_eq_true rfl) rfl (fun K C hl hg hR hT => ?_)
  subst hl
  subst hg
  exact l_settle hfl C hR S hz
theorem w_mt_close {l : Launch} (hfl : l.stackTraces = false) {g : wG} {z : wZ} {I : wI} {P : wP} {O : wO} {nw : Nat} {J : wI} {v : Int32} (S : Stt z nw I P J) (hz : 0 < z.1) (sz : Nat) : XT l yL_matters (.code yL_matters cL_matters 14 (some .boolean)) { frames := 8, cells := 2, slots := 14, locals := 150 } g z sz [.ref (g.2.2 0 0), .int (nI 3), .int v, .ref (g.2.2 13 0), .ref (g.2.2 13 1), .ref (g.2.2 13 2), .ref (g.2.2 13 3), .ref (g.2.2 13 4), .ref (g.2.2 13 5), .ref (g.2.2 13 6)] I P O 2 14 (oP g z sz nw O) (fun _ => False) := by
  refine XT.of (own := RL) rfl (by decide +kernel) hfl (Nat.le_of_ble_eq_true rfl) rfl (fun K C hl hg hR hT => ?_)
  subst hl
  subst hg
  exact l_close hfl C hR S hz
theorem w_mt_pay {l : Launch} (hfl : l.stackTraces = false) {g : wG} {z : wZ} {I : wI} {P : wP} {O : wO} {nw : Nat} {J : wI} {v : Int32} (S : Stt z nw I P J) (hz : 0 < z.1) (sz : Nat) : XT l yL_matters (.code yL_matters cL_matters 14 (some .boolean)) { frames := 8, cells := 2, slots := 14, locals := 150 } g z sz [.ref (g.2.2 0 0), .int (nI 4), .int v, .ref (g.2.2 13 0), .ref (g.2.2 13 1), .ref (g.2.2 13 2), .ref (g.2.2 13 3), .ref (g.2.2 13 4), .ref (g.2.2 13 5), .ref (g.2.2 13 6)] I P O 2 14 (oP g z sz nw O) (fun _ => False) := by
  refine XT.of (own := RL) rfl (by decide +kernel) hfl (Nat.le_of_ble_eq_true rfl) rfl (fun K C hl hg hR hT => ?_)
  subst hl
  subst hg
  exact l_pay hfl C hR S hz
end WLmat
