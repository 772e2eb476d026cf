section WLmid
set_option maxRecDepth 20000 in
theorem w_leaves {l : Launch} {g : wG} {z : wZ} {I : wI} {P : wP} {O : wO} {h nw : Nat} {J : wI} {ex : Nat → Prop} (X : MI z.1 z.2 J) (S : YS ex z nw J (I 13)) (he : ex h) (hh : h < z.2) (hA : ¬ J 13 17 h = -1 → AP h z.2 J) (hfree : ∀ k, k < mh J h → ¬ J 13 17 h = -1 → nw < mfr J h + k → mpy J (1004 * msp J h + (mfr J h + k)) = 0) : RT l yL_leaves cL_leaves 10 (none) { frames := 1, cells := 0, slots := 0, locals := 27 } g z [.int (nI h), .ref (g.2.2 13 0), .ref (g.2.2 13 1), .ref (g.2.2 13 2), .ref (g.2.2 13 3), .ref (g.2.2 13 4), .ref (g.2.2 13 6)] I P O (fun v I' P' => v = none ∧ P' = P ∧ Oth I I' ∧ YS ex z nw (mLv h J) (I' 13)) := by
  refine RT.of (own := RL) rfl (by decide +kernel) (Nat.le_of_ble_eq_true rfl) rfl (fun K C hl hg hR => ?_)
  subst hl
  subst hg
  have hm12 : mm J h < 12 := X.mt2 hh
  have hm8 : mm J h < 8 := Nat.lt_of_lt_of_le (X.mtM hh) S.M8
  have hr4 := S.rm4 hh
  have hs4 := S.sp4 hh
  have hlt := eA_lt hm12 hr4 hs4
  have hH4 := X.hr4 hh
  have hHlt := eH_lt hH4 (S.nt3 hh)
  have hN16 := S.N16
  have hn9 := S.n9
  obtain ⟨e18, hf9⟩ := X.fr hh
  have hj := S.jn
  have none_ : (J 13 17 h = -1 ∨ J 13 18 h ≤ J 12 0 1) → mLv h J = J := fun q => by unfold mLv; rw [if_pos q]
  have loop : ¬ J 13 17 h = -1 → nw < mfr J h → ∀ (n k : Nat) (I2 J2 : wI), k + n = mh J h → Oth I I2 → MI z.1 z.2 J2 → YS ex z nw J2 (I2 13) → (∀ f c, f ≠ 11 → f ≠ 22 → f ≠ 23 → J2 13 f c = J 13 f c) → (∀ k', k ≤ k' → k' < mh J h → mpy J2 (1004 * msp J h + (mfr J h + k')) = 0) → mLvL h (mm J h) n k J2 = mLv h J → G K z I2 P O 0 0 44 [(0, .int (nI h)), (1, .ref ((Kg K).2.2 13 0)), (2, .ref ((Kg K).2.2 13 1)), (3, .ref ((Kg K).2.2 13 2)), (4, .ref ((Kg K).2.2 13 3)), (5, .ref ((Kg K).2.2 13 4)), (6, .ref ((Kg K).2.2 13 6)), (7, .int (nI (mm J h))), (8, .int (nI (mfr J h) - nI nw)), (9, .int (nI k))] [] := by
    intro hs hf n
    obtain ⟨e17, hsp⟩ := (X.sp hh).resolve_left hs
    induction n with
    | zero =>
      intro k I2 J2 hk hO X2 S2 hF hz hT
      have r3 : I2 13 1 (4 * h + 3) = nI (eH J h) := (S2.rH hh).trans (by unfold eH mh ntN; rw [hF _ _ (by decide) (by decide) (by decide), hF _ _ (by decide) (by decide) (by decide)])
      refine g_iload (pc' := 46) C dL_leaves_44 rfl rfl ?_
      refine g_aload_n (pc' := 47) C dL_leaves_46 rfl rfl ?_
      refine g_iconst (v := nI 4) (pc' := 48) C dL_leaves_47 (by decide) rfl ?_
      refine g_iload_n (pc' := 49) C dL_leaves_48 rfl rfl ?_
      refine g_imulN (pc' := 50) C dL_leaves_49 rfl ?_
      refine g_iconst (v := nI 3) (pc' := 51) C dL_leaves_50 (by decide) rfl ?_
      refine g_iaddN (pc' := 52) C dL_leaves_51 rfl ?_
      refine g_iald (pc' := 53) C (4 * h + 3) rfl (by show _ < 64; omega) dL_leaves_52 (al13 rfl) rfl rfl rfl ?_
      rw [r3]
      refine g_bipush (v := nI 16) (pc' := 55) C dL_leaves_53 (by decide) rfl ?_
      refine g_iremN (r := mh J h) (pc' := 56) C (by omega) (by omega) (eH_h hH4) dL_leaves_55 rfl ?_
      refine g_icmp_geN (tgt := 129) (pc' := 59) C (by omega) (by omega) dL_leaves_56 (by decide) rfl (fun c1 => ?_) (fun c1 => absurd c1 (by omega))
      exact g_vret C hR dL_leaves_129 ⟨rfl, rfl, hO, by rw [← hT]; exact S2⟩
    | succ n ih =>
      intro k I2 J2 hk hO X2 S2 hF hz hT
      have hk4 : k < 4 := by omega
      have r3 : I2 13 1 (4 * h + 3) = nI (eH J h) := (S2.rH hh).trans (by unfold eH mh ntN; rw [hF _ _ (by decide) (by decide) (by decide), hF _ _ (by decide) (by decide) (by decide)])
      have r2 : I2 13 1 (4 * h + 2) = nI (mfr J h) := (S2.rF X2 hh).trans (by unfold mfr; rw [hF _ _ (by decide) (by decide) (by decide)])
      have r1 : I2 13 1 (4 * h + 1) = nI (eA J h) := (S2.rA hh).trans (by unfold eA mm rmN spN; rw [hF _ _ (by decide) (by decide) (by decide), hF _ _ (by decide) (by decide) (by decide), hF _ _ (by decide) (by decide) (by decide)])
      have rc : I2 13 2 (4 * h + k) = nI (chN J2 (4 * h + k)) := (S2.c _ (by omega)).1.trans (S2.c _ (by omega)).2.1
      have rc9 := (S2.c (4 * h + k) (by omega)).2.2
      have r5 : I2 13 0 (8 * mm J h + 5) = J2 13 11 (mm J h) := (S2.m.2.1 _ (X.mtM hh)).2.2.2.2.2.1
      have hmsp : msp J2 h = msp J h := by unfold msp; rw [hF _ _ (by decide) (by decide) (by decide)]
      have hmfr : mfr J2 h = mfr J h := by unfold mfr; rw [hF _ _ (by decide) (by decide) (by decide)]
      have hmh : mh J2 h = mh J h := by unfold mh; rw [hF _ _ (by decide) (by decide) (by decide)]
      have c18 : J2 13 18 h - J2 12 0 1 = nI (mfr J h) - nI nw := by rw [hF _ _ (by decide) (by decide) (by decide), S2.jn, e18]
      have hat : mAt J2 h k = 1004 * msp J h + (mfr J h + k) := by unfold mAt; rw [hmsp, hmfr]; omega
      have hF2 : ∀ f c, f ≠ 11 → f ≠ 22 → f ≠ 23 → mLvS h (mm J h) k J2 13 f c = J 13 f c := fun f c h1 h2 h3 => by
        rw [← hF f c h1 h2 h3]
        unfold mLvS
        split
        · rw [upI_at, if_neg (by omega), upI_at, if_neg (by omega)]
        · rw [upI_at, if_neg (by omega)]
      have hz2 : ∀ k', k + 1 ≤ k' → k' < mh J h → mpy (mLvS h (mm J h) k J2) (1004 * msp J h + (mfr J h + k')) = 0 := fun k' h1 h2 => by
        rw [mLvS_mpy (by rw [hat]; omega)]
        exact hz k' (by omega) h2
      have X3 : MI z.1 z.2 (mLvS h (mm J h) k J2) := MI.lv (X.mtM hh) 1 k J2 X2
      refine g_iload (pc' := 46) C dL_leaves_44 rfl rfl ?_
      refine g_aload_n (pc' := 47) C dL_leaves_46 rfl rfl ?_
      refine g_iconst (v := nI 4) (pc' := 48) C dL_leaves_47 (by decide) rfl ?_
      refine g_iload_n (pc' := 49) C dL_leaves_48 rfl rfl ?_
      refine g_imulN (pc' := 50) C dL_leaves_49 rfl ?_
      refine g_iconst (v := nI 3) (pc' := 51) C dL_leaves_50 (by decide) rfl ?_
      refine g_iaddN (pc' := 52) C dL_leaves_51 rfl ?_
      refine g_iald (pc' := 53) C (4 * h + 3) rfl (by show _ < 64; omega) dL_leaves_52 (al13 rfl) rfl rfl rfl ?_
      rw [r3]
      refine g_bipush (v := nI 16) (pc' := 55) C dL_leaves_53 (by decide) rfl ?_
      refine g_iremN (r := mh J h) (pc' := 56) C (by omega) (by omega) (eH_h hH4) dL_leaves_55 rfl ?_
      refine g_icmp_geN (tgt := 129) (pc' := 59) C (by omega) (by omega) dL_leaves_56 (by decide) rfl (fun c1 => absurd c1 (by omega)) (fun c1 => ?_)
      refine g_iload (pc' := 61) C dL_leaves_59 rfl rfl ?_
      refine g_bipush (v := nI 7) (pc' := 63) C dL_leaves_61 (by decide) rfl ?_
      refine g_icmp_le (tgt := 89) (pc' := 66) C dL_leaves_63 (by decide) rfl (fun c2 => ?_) (fun c2 => ?_)
      ·
        refine g_iload_n (pc' := 90) C dL_leaves_89 rfl rfl ?_
        refine g_aload_n (pc' := 91) C dL_leaves_90 rfl rfl ?_
        refine g_callS (pc' := 94) (As := [.int (nI h), .ref ((Kg K).2.2 13 1)]) (S := []) C cs_L_47 (w_speaker (sp := (nI (msp J h))) r1 (by omega) (by omega) (by rw [eA_s hm12 hr4, S.spv hh]; exact e17)) dL_leaves_91 ⟨rfl, by decide +kernel, by decide +kernel, (by decide +kernel : (parseMethodDescriptor yL_speaker.desc).map (fun d => d.parameters.length) = some 2)⟩ ⟨⟨Nat.le_of_ble_eq_true rfl, Nat.le_of_ble_eq_true rfl⟩, rfl, rfl⟩ rfl (Nat.le_of_ble_eq_true rfl) ⟨Nat.zero_le _, Nat.zero_le _⟩ rfl (fun v1 I1 P1 q => ?_)
        obtain ⟨rfl, q1, q2⟩ := q
        rw [q1, q2]
        refine g_aload_n (pc' := 95) C dL_leaves_94 rfl rfl ?_
        refine g_iconst (v := nI 4) (pc' := 96) C dL_leaves_95 (by decide) rfl ?_
        refine g_iload_n (pc' := 97) C dL_leaves_96 rfl rfl ?_
        refine g_imulN (pc' := 98) C dL_leaves_97 rfl ?_
        refine g_iconst (v := nI 2) (pc' := 99) C dL_leaves_98 (by decide) rfl ?_
        refine g_iaddN (pc' := 100) C dL_leaves_99 rfl ?_
        refine g_iald (pc' := 101) C (4 * h + 2) rfl (by show _ < 64; omega) dL_leaves_100 (al13 rfl) rfl rfl rfl ?_
        rw [r2]
        refine g_iload (pc' := 103) C dL_leaves_101 rfl rfl ?_
        refine g_iaddN (pc' := 104) C dL_leaves_103 rfl ?_
        refine g_iload (pc' := 106) C dL_leaves_104 rfl rfl ?_
        refine g_aload_n (pc' := 107) C dL_leaves_106 rfl rfl ?_
        refine g_iconst (v := nI 4) (pc' := 108) C dL_leaves_107 (by decide) rfl ?_
        refine g_iload_n (pc' := 109) C dL_leaves_108 rfl rfl ?_
        refine g_imulN (pc' := 110) C dL_leaves_109 rfl ?_
        refine g_iload (pc' := 112) C dL_leaves_110 rfl rfl ?_
        refine g_iaddN (pc' := 113) C dL_leaves_112 rfl ?_
        refine g_iald (pc' := 114) C (4 * h + k) rfl (by show _ < 64; omega) dL_leaves_113 (al13 rfl) rfl rfl rfl ?_
        rw [rc]
        refine g_aload (pc' := 116) C dL_leaves_114 rfl rfl ?_
        refine g_aload (pc' := 118) C dL_leaves_116 rfl rfl ?_
        refine g_aload (pc' := 120) C dL_leaves_118 rfl rfl ?_
        have hlt8 : mfr J h < nw + 8 := (ah_7 (by omega) (by omega)).mp c2
        have hfk := hz k (Nat.le_refl _) (by omega)
        refine g_callS (pc' := 123) (As := [.int (nI (msp J h)), .int (nI (mfr J h + k)), .int (nI (mm J h)), .int (nI (chN J2 (4 * h + k))), .ref ((Kg K).2.2 13 3), .ref ((Kg K).2.2 13 4), .ref ((Kg K).2.2 13 6)]) (S := []) C cs_L_53 (w_keeps (nw := nw) hn9 (fun k hk => ⟨(S2.u.1 k hk).1, (S2.u.1 k hk).2.1⟩) S2.q2 (S2.u.free hsp (by omega) (by omega) hfk)) dL_leaves_120 ⟨rfl, by decide +kernel, by decide +kernel, (by decide +kernel : (parseMethodDescriptor yL_keeps.desc).map (fun d => d.parameters.length) = some 7)⟩ ⟨⟨Nat.le_of_ble_eq_true rfl, Nat.le_of_ble_eq_true rfl⟩, rfl, rfl⟩ rfl (Nat.le_of_ble_eq_true rfl) ⟨Nat.zero_le _, Nat.zero_le _⟩ rfl (fun v1 I1 P1 q => ?_)
        obtain ⟨rfl, q1, k0, hk0, hfk0, q2⟩ := q
        rw [q1, q2]
        have S3 : YS ex z nw (mLvS h (mm J h) k J2) (upI (upI I2 13 3 k0 (nI (msp J h + 1 + 8 * (mfr J h + k)))) 13 4 k0 (nI (mm J h + 16 * chN J2 (4 * h + k))) 13) := by
          rw [upI_13, upI_13, mLvS_near S2 (by omega) (by rw [c18]; exact (sub_lt8 (by omega) (by omega)).mpr hlt8)]
          have := S2.keep (h := h) (m := mm J h) (k := k) (k0 := k0) X2 ((hA hs).of (fun f c hf => hF f c (by omega) (by omega) (by omega))) he hh (X.mtM hh) (by rw [hF _ _ (by decide) (by decide) (by decide)]; exact hs) (by rw [hmh]; omega) (by rw [hmfr]; omega) (by rw [hmfr]; omega) (by rw [hmsp, hmfr]; exact hfk) hk0 hfk0
          rw [hmsp, hmfr] at this
          exact this
        have hO3 : Oth I (upI (upI I2 13 3 k0 (nI (msp J h + 1 + 8 * (mfr J h + k)))) 13 4 k0 (nI (mm J h + 16 * chN J2 (4 * h + k)))) := hO.up.up
        generalize upI (upI I2 13 3 k0 (nI (msp J h + 1 + 8 * (mfr J h + k)))) 13 4 k0 (nI (mm J h + 16 * chN J2 (4 * h + k))) = I3 at S3 hO3 ⊢
        refine g_iinc (pc' := 126) C dL_leaves_123 rfl (iiN _) rfl rfl ?_
        refine g_goto (tgt := 44) C dL_leaves_126 (by decide) ?_
        exact G_pick [0, 1, 2, 3, 4, 5, 6, 7, 8, 9] rfl (ih (k + 1) I3 (mLvS h (mm J h) k J2) (by omega) hO3 X3 S3 hF2 hz2 hT)
      ·
        refine g_aload_n (pc' := 67) C dL_leaves_66 rfl rfl ?_
        refine g_bipush (v := nI 8) (pc' := 69) C dL_leaves_67 (by decide) rfl ?_
        refine g_iload (pc' := 71) C dL_leaves_69 rfl rfl ?_
        refine g_imulN (pc' := 72) C dL_leaves_71 rfl ?_
        refine g_iconst (v := nI 5) (pc' := 73) C dL_leaves_72 (by decide) rfl ?_
        refine g_iaddN (pc' := 74) C dL_leaves_73 rfl ?_
        refine g_dup2 (pc' := 75) C dL_leaves_74 rfl rfl rfl ?_
        refine g_iald (pc' := 76) C (8 * (mm J h) + 5) rfl (by show _ < 64; omega) dL_leaves_75 (al13 rfl) rfl rfl rfl ?_
        rw [r5]
        refine g_aload_n (pc' := 77) C dL_leaves_76 rfl rfl ?_
        refine g_iconst (v := nI 4) (pc' := 78) C dL_leaves_77 (by decide) rfl ?_
        refine g_iload_n (pc' := 79) C dL_leaves_78 rfl rfl ?_
        refine g_imulN (pc' := 80) C dL_leaves_79 rfl ?_
        refine g_iload (pc' := 82) C dL_leaves_80 rfl rfl ?_
        refine g_iaddN (pc' := 83) C dL_leaves_82 rfl ?_
        refine g_iald (pc' := 84) C (4 * h + k) rfl (by show _ < 64; omega) dL_leaves_83 (al13 rfl) rfl rfl rfl ?_
        rw [rc]
        refine g_iadd (pc' := 85) C dL_leaves_84 rfl ?_
        refine g_iast (pc' := 86) C (8 * (mm J h) + 5) rfl (by show _ < 64; omega) dL_leaves_85 (al13 rfl) (fun _ => rfl) rfl rfl ?_
        have hge8 : ¬ mfr J h < nw + 8 := fun q => c2 ((ah_7 (by omega) (by omega)).mpr q)
        have S3 : YS ex z nw (mLvS h (mm J h) k J2) ((upI I2 13 0 (8 * (mm J h) + 5) ((J2 13 11 (mm J h)) + nI (chN J2 (4 * h + k)))) 13) := by
          rw [upI_13, mLvS_far (by rw [c18]; exact fun q => hge8 ((sub_lt8 (by omega) (by omega)).mp q)), (S2.c _ (by omega)).2.1]
          exact S2.bal (X.mtM hh)
        have hO3 : Oth I (upI I2 13 0 (8 * (mm J h) + 5) ((J2 13 11 (mm J h)) + nI (chN J2 (4 * h + k)))) := hO.up
        generalize (upI I2 13 0 (8 * (mm J h) + 5) ((J2 13 11 (mm J h)) + nI (chN J2 (4 * h + k)))) = I3 at S3 hO3 ⊢
        refine g_goto (tgt := 123) C dL_leaves_86 (by decide) ?_
        refine g_iinc (pc' := 126) C dL_leaves_123 rfl (iiN _) rfl rfl ?_
        refine g_goto (tgt := 44) C dL_leaves_126 (by decide) ?_
        exact G_pick [0, 1, 2, 3, 4, 5, 6, 7, 8, 9] rfl (ih (k + 1) I3 (mLvS h (mm J h) k J2) (by omega) hO3 X3 S3 hF2 hz2 hT)
  refine g_aload_n (pc' := 1) C dL_leaves_0 rfl rfl ?_
  refine g_iconst (v := nI 4) (pc' := 2) C dL_leaves_1 (by decide) rfl ?_
  refine g_iload_n (pc' := 3) C dL_leaves_2 rfl rfl ?_
  refine g_imulN (pc' := 4) C dL_leaves_3 rfl ?_
  refine g_iconst (v := nI 1) (pc' := 5) C dL_leaves_4 (by decide) rfl ?_
  refine g_iaddN (pc' := 6) C dL_leaves_5 rfl ?_
  refine g_iald (pc' := 7) C (4 * h + 1) rfl (by show _ < 64; omega) dL_leaves_6 (al13 rfl) rfl rfl rfl ?_
  rw [(S.rA hh)]
  refine g_bipush (v := nI 16) (pc' := 9) C dL_leaves_7 (by decide) rfl ?_
  refine g_iremN (r := mm J h) (pc' := 10) C (by omega) (by omega) (eA_m hm12 hr4) dL_leaves_9 rfl ?_
  refine g_istore (pc' := 12) C dL_leaves_10 rfl rfl ?_
  refine g_aload_n (pc' := 13) C dL_leaves_12 rfl rfl ?_
  refine g_iconst (v := nI 4) (pc' := 14) C dL_leaves_13 (by decide) rfl ?_
  refine g_iload_n (pc' := 15) C dL_leaves_14 rfl rfl ?_
  refine g_imulN (pc' := 16) C dL_leaves_15 rfl ?_
  refine g_iconst (v := nI 2) (pc' := 17) C dL_leaves_16 (by decide) rfl ?_
  refine g_iaddN (pc' := 18) C dL_leaves_17 rfl ?_
  refine g_iald (pc' := 19) C (4 * h + 2) rfl (by show _ < 64; omega) dL_leaves_18 (al13 rfl) rfl rfl rfl ?_
  rw [(S.rF X hh)]
  refine g_aload (pc' := 21) C dL_leaves_19 rfl rfl ?_
  refine g_iconst (v := nI 2) (pc' := 22) C dL_leaves_21 (by decide) rfl ?_
  refine g_iald (pc' := 23) C (2) rfl (by show 2 < 3; omega) dL_leaves_22 (al13 rfl) rfl rfl rfl ?_
  rw [S.q2]
  refine g_isub (pc' := 24) C dL_leaves_23 rfl ?_
  refine g_istore (pc' := 26) C dL_leaves_24 rfl rfl ?_
  refine g_iload_n (pc' := 27) C dL_leaves_26 rfl rfl ?_
  refine g_aload_n (pc' := 28) C dL_leaves_27 rfl rfl ?_
  refine g_callS (pc' := 31) (As := [.int (nI h), .ref ((Kg K).2.2 13 1)]) (S := []) C cs_L_47 (w_speaker (sp := (J 13 17 h)) (S.rA hh) (by omega) (by omega) (by rw [eA_s hm12 hr4, S.spv hh])) dL_leaves_28 ⟨rfl, by decide +kernel, by decide +kernel, (by decide +kernel : (parseMethodDescriptor yL_speaker.desc).map (fun d => d.parameters.length) = some 2)⟩ ⟨⟨Nat.le_of_ble_eq_true rfl, Nat.le_of_ble_eq_true rfl⟩, rfl, rfl⟩ rfl (Nat.le_of_ble_eq_true rfl) ⟨Nat.zero_le _, Nat.zero_le _⟩ rfl (fun v1 I1 P1 q => ?_)
  obtain ⟨rfl, q1, q2⟩ := q
  rw [q1, q2]
  refine g_if_lt (tgt := 40) (pc' := 34) C dL_leaves_31 (by decide) rfl (fun c1 => ?_) (fun c1 => ?_)
  ·
    have hq : J 13 17 h = -1 := (X.sp hh).resolve_right (fun q => nI_pos (n := msp J h) (by have := q.2; omega) (by rw [← q.1]; exact c1))
    exact g_vret C hR dL_leaves_40 ⟨rfl, rfl, Oth.rf, by rw [none_ (Or.inl hq)]; exact S⟩
  ·
    have hs : ¬ J 13 17 h = -1 := fun q => c1 (by rw [q]; decide)
    refine g_iload (pc' := 36) C dL_leaves_34 rfl rfl ?_
    refine g_iconst (v := nI 1) (pc' := 37) C dL_leaves_36 (by decide) rfl ?_
    refine g_icmp_ge (tgt := 41) (pc' := 40) C dL_leaves_37 (by decide) rfl (fun c2 => ?_) (fun c2 => ?_)
    ·
      have hf : nw < mfr J h := (ah_ge (by omega) (by omega)).mp c2
      refine g_iconst (v := nI 0) (pc' := 42) C dL_leaves_41 (by decide) rfl ?_
      refine g_istore (pc' := 44) C dL_leaves_42 rfl rfl ?_
      have hle : ¬ (J 13 17 h = -1 ∨ J 13 18 h ≤ J 12 0 1) := fun q => q.elim hs (fun q => nI_ge hf (by omega) (by rw [← hj, ← e18]; exact q))
      refine G_pick [0, 1, 2, 3, 4, 5, 6, 7, 8, 9] rfl (loop hs hf (mh J h) 0 I J (by omega) Oth.rf X S (fun _ _ _ _ _ => rfl) (fun k' _ hk' => ?_) (by unfold mLv; rw [if_neg hle]))
      by_cases hg : nw < mfr J h + k'
      · exact hfree k' hk' hs hg
      · omega
    ·
      have hq : J 13 18 h ≤ J 12 0 1 := by rw [e18, hj]; exact nI_le (Nat.not_lt.mp (fun q => c2 ((ah_ge (by omega) (by omega)).mpr q))) (by omega)
      exact g_vret C hR dL_leaves_40 ⟨rfl, rfl, Oth.rf, by rw [none_ (Or.inr hq)]; exact S⟩
set_option maxRecDepth 20000 in
theorem w_comes {l : Launch} {g : wG} {z : wZ} {I : wI} {P : wP} {O : wO} {h nw : Nat} {J : wI} {ex : Nat → Prop} {y : wZ} (X : MI y.1 y.2 J) (S : YS ex y nw J (I 13)) (hh : h < y.2) (hf : nw < mfr J h) : RT l yL_comes cL_comes 14 (none) { frames := 1, cells := 0, slots := 0, locals := 24 } g z [.int (nI h), .ref (g.2.2 13 0), .ref (g.2.2 13 1), .ref (g.2.2 13 2), .ref (g.2.2 13 3), .ref (g.2.2 13 4), .ref (g.2.2 13 5), .ref (g.2.2 13 6)] I P O (fun v I' P' => v = none ∧ P' = P ∧ Oth I I' ∧ YS ex y nw (mCm h J) (I' 13)) := by
  refine RT.of (own := RL) rfl (by decide +kernel) (Nat.le_of_ble_eq_true rfl) rfl (fun K C hl hg hR => ?_)
  subst hl
  subst hg
  have hm12 : mm J h < 12 := X.mt2 hh
  have hm8 : mm J h < 8 := Nat.lt_of_lt_of_le (X.mtM hh) S.M8
  have hr4 := S.rm4 hh
  have hs4 := S.sp4 hh
  have hlt := eA_lt hm12 hr4 hs4
  have hH4 := X.hr4 hh
  have hHlt := eH_lt hH4 (S.nt3 hh)
  have hN16 := S.N16
  have hn9 := S.n9
  obtain ⟨e18, hf9⟩ := X.fr hh
  have hj := S.jn
  have tail : ∀ (k cost : Nat) (I2 J2 : wI), k < mh J h → cost ≤ 99 → Oth I I2 → YS ex y nw J2 (I2 13) → (∀ I3, Oth I I3 → YS ex y nw (upI (upI J2 13 21 (4 * h + k) (nI cost)) 13 11 (mm J h) (upI J2 13 21 (4 * h + k) (nI cost) 13 11 (mm J h) - nI cost)) (I3 13) → G K z I3 P O 0 0 22 [(0, .int (nI h)), (1, .ref ((Kg K).2.2 13 0)), (2, .ref ((Kg K).2.2 13 1)), (3, .ref ((Kg K).2.2 13 2)), (4, .ref ((Kg K).2.2 13 3)), (5, .ref ((Kg K).2.2 13 4)), (6, .ref ((Kg K).2.2 13 5)), (7, .ref ((Kg K).2.2 13 6)), (8, .int (nI (mm J h))), (9, .int (J 13 17 h)), (10, .int (nI (k + 1)))] []) → G K z I2 P O 0 0 143 [(0, .int (nI h)), (1, .ref ((Kg K).2.2 13 0)), (2, .ref ((Kg K).2.2 13 1)), (3, .ref ((Kg K).2.2 13 2)), (4, .ref ((Kg K).2.2 13 3)), (5, .ref ((Kg K).2.2 13 4)), (6, .ref ((Kg K).2.2 13 5)), (7, .ref ((Kg K).2.2 13 6)), (8, .int (nI (mm J h))), (9, .int (J 13 17 h)), (10, .int (nI k)), (11, .int (nI cost))] [] := by
    intro k cost I2 J2 hk hc hO S2 kk
    have S3 : YS ex y nw (upI J2 13 21 (4 * h + k) (nI cost)) ((upI I2 13 2 (4 * h + k) (nI cost)) 13) := by
      rw [upI_13]; exact S2.ch hc
    have hO3 : Oth I (upI I2 13 2 (4 * h + k) (nI cost)) := hO.up
    refine g_aload_n (pc' := 144) C dL_comes_143 rfl rfl ?_
    refine g_iconst (v := nI 4) (pc' := 145) C dL_comes_144 (by decide) rfl ?_
    refine g_iload_n (pc' := 146) C dL_comes_145 rfl rfl ?_
    refine g_imulN (pc' := 147) C dL_comes_146 rfl ?_
    refine g_iload (pc' := 149) C dL_comes_147 rfl rfl ?_
    refine g_iaddN (pc' := 150) C dL_comes_149 rfl ?_
    refine g_iload (pc' := 152) C dL_comes_150 rfl rfl ?_
    refine g_iast (pc' := 153) C (4 * h + k) rfl (by show _ < 64; omega) dL_comes_152 (al13 rfl) (fun _ => rfl) rfl rfl ?_
    generalize (upI I2 13 2 (4 * h + k) (nI cost)) = I3 at S3 hO3 ⊢
    have r5 : I3 13 0 (8 * mm J h + 5) = upI J2 13 21 (4 * h + k) (nI cost) 13 11 (mm J h) := (S3.m.2.1 _ (X.mtM hh)).2.2.2.2.2.1
    refine g_aload_n (pc' := 154) C dL_comes_153 rfl rfl ?_
    refine g_bipush (v := nI 8) (pc' := 156) C dL_comes_154 (by decide) rfl ?_
    refine g_iload (pc' := 158) C dL_comes_156 rfl rfl ?_
    refine g_imulN (pc' := 159) C dL_comes_158 rfl ?_
    refine g_iconst (v := nI 5) (pc' := 160) C dL_comes_159 (by decide) rfl ?_
    refine g_iaddN (pc' := 161) C dL_comes_160 rfl ?_
    refine g_dup2 (pc' := 162) C dL_comes_161 rfl rfl rfl ?_
    refine g_iald (pc' := 163) C (8 * (mm J h) + 5) rfl (by show _ < 64; omega) dL_comes_162 (al13 rfl) rfl rfl rfl ?_
    rw [r5]
    refine g_iload (pc' := 165) C dL_comes_163 rfl rfl ?_
    refine g_isub (pc' := 166) C dL_comes_165 rfl ?_
    refine g_iast (pc' := 167) C (8 * (mm J h) + 5) rfl (by show _ < 64; omega) dL_comes_166 (al13 rfl) (fun _ => rfl) rfl rfl ?_
    have S4 : YS ex y nw (upI (upI J2 13 21 (4 * h + k) (nI cost)) 13 11 (mm J h) (upI J2 13 21 (4 * h + k) (nI cost) 13 11 (mm J h) - nI cost)) ((upI I3 13 0 (8 * (mm J h) + 5) ((upI J2 13 21 (4 * h + k) (nI cost) 13 11 (mm J h)) - nI cost)) 13) := by
      rw [upI_13]; exact S3.bal (X.mtM hh)
    have hO4 : Oth I (upI I3 13 0 (8 * (mm J h) + 5) ((upI J2 13 21 (4 * h + k) (nI cost) 13 11 (mm J h)) - nI cost)) := hO3.up
    generalize (upI I3 13 0 (8 * (mm J h) + 5) ((upI J2 13 21 (4 * h + k) (nI cost) 13 11 (mm J h)) - nI cost)) = I4 at S4 hO4 ⊢
    refine g_iinc (pc' := 170) C dL_comes_167 rfl (iiN _) rfl rfl ?_
    refine g_goto (tgt := 22) C dL_comes_170 (by decide) ?_
    exact G_pick [0, 1, 2, 3, 4, 5, 6, 7, 8, 9, 10] rfl (kk I4 hO4 S4)
  rcases X.sp hh with e17 | ⟨e17, hsp⟩
  ·
    have loop : ∀ (n k : Nat) (I2 J2 : wI), k + n = mh J h → Oth I I2 → MI y.1 y.2 J2 → YS ex y nw J2 (I2 13) → (∀ f c, f ≠ 11 → f ≠ 21 → f ≠ 22 → f ≠ 23 → J2 13 f c = J 13 f c) → mC0L h (mm J h) n k J2 = mCm h J → G K z I2 P O 0 0 22 [(0, .int (nI h)), (1, .ref ((Kg K).2.2 13 0)), (2, .ref ((Kg K).2.2 13 1)), (3, .ref ((Kg K).2.2 13 2)), (4, .ref ((Kg K).2.2 13 3)), (5, .ref ((Kg K).2.2 13 4)), (6, .ref ((Kg K).2.2 13 5)), (7, .ref ((Kg K).2.2 13 6)), (8, .int (nI (mm J h))), (9, .int (J 13 17 h)), (10, .int (nI k))] [] := by
      intro n
      induction n with
      | zero =>
        intro k I2 J2 hk hO X2 S2 hF hT
        have r3 : I2 13 1 (4 * h + 3) = nI (eH J h) := (S2.rH hh).trans (by unfold eH mh ntN; rw [hF _ _ (by decide) (by decide) (by decide) (by decide), hF _ _ (by decide) (by decide) (by decide) (by decide)])
        refine g_iload (pc' := 24) C dL_comes_22 rfl rfl ?_
        refine g_aload_n (pc' := 25) C dL_comes_24 rfl rfl ?_
        refine g_iconst (v := nI 4) (pc' := 26) C dL_comes_25 (by decide) rfl ?_
        refine g_iload_n (pc' := 27) C dL_comes_26 rfl rfl ?_
        refine g_imulN (pc' := 28) C dL_comes_27 rfl ?_
        refine g_iconst (v := nI 3) (pc' := 29) C dL_comes_28 (by decide) rfl ?_
        refine g_iaddN (pc' := 30) C dL_comes_29 rfl ?_
        refine g_iald (pc' := 31) C (4 * h + 3) rfl (by show _ < 64; omega) dL_comes_30 (al13 rfl) rfl rfl rfl ?_
        rw [r3]
        refine g_bipush (v := nI 16) (pc' := 33) C dL_comes_31 (by decide) rfl ?_
        refine g_iremN (r := mh J h) (pc' := 34) C (by omega) (by omega) (eH_h hH4) dL_comes_33 rfl ?_
        refine g_icmp_geN (tgt := 173) (pc' := 37) C (by omega) (by omega) dL_comes_34 (by decide) rfl (fun c1 => ?_) (fun c1 => absurd c1 (by omega))
        exact g_vret C hR dL_comes_173 ⟨rfl, rfl, hO, by rw [← hT]; exact S2⟩
      | succ n ih =>
        intro k I2 J2 hk hO X2 S2 hF hT
        have hk4 : k < 4 := by omega
        have r3 : I2 13 1 (4 * h + 3) = nI (eH J h) := (S2.rH hh).trans (by unfold eH mh ntN; rw [hF _ _ (by decide) (by decide) (by decide) (by decide), hF _ _ (by decide) (by decide) (by decide) (by decide)])
        refine g_iload (pc' := 24) C dL_comes_22 rfl rfl ?_
        refine g_aload_n (pc' := 25) C dL_comes_24 rfl rfl ?_
        refine g_iconst (v := nI 4) (pc' := 26) C dL_comes_25 (by decide) rfl ?_
        refine g_iload_n (pc' := 27) C dL_comes_26 rfl rfl ?_
        refine g_imulN (pc' := 28) C dL_comes_27 rfl ?_
        refine g_iconst (v := nI 3) (pc' := 29) C dL_comes_28 (by decide) rfl ?_
        refine g_iaddN (pc' := 30) C dL_comes_29 rfl ?_
        refine g_iald (pc' := 31) C (4 * h + 3) rfl (by show _ < 64; omega) dL_comes_30 (al13 rfl) rfl rfl rfl ?_
        rw [r3]
        refine g_bipush (v := nI 16) (pc' := 33) C dL_comes_31 (by decide) rfl ?_
        refine g_iremN (r := mh J h) (pc' := 34) C (by omega) (by omega) (eH_h hH4) dL_comes_33 rfl ?_
        refine g_icmp_geN (tgt := 173) (pc' := 37) C (by omega) (by omega) dL_comes_34 (by decide) rfl (fun c1 => absurd c1 (by omega)) (fun c1 => ?_)
        refine g_iload (pc' := 39) C dL_comes_37 rfl rfl ?_
        refine g_if_ge (tgt := 46) (pc' := 42) C dL_comes_39 (by decide) rfl (fun c2 => absurd c2 (by rw [e17]; decide)) (fun c2 => ?_)
        refine g_iconst (v := nI 0) (pc' := 43) C dL_comes_42 (by decide) rfl ?_
        refine g_goto (tgt := 53) C dL_comes_43 (by decide) ?_
        refine g_istore (pc' := 55) C dL_comes_53 rfl rfl ?_
        refine g_iload (pc' := 57) C dL_comes_55 rfl rfl ?_
        refine g_if_ge (tgt := 64) (pc' := 60) C dL_comes_57 (by decide) rfl (fun c3 => absurd c3 (by rw [e17]; decide)) (fun c3 => ?_)
        refine g_iconst (v := (-1)) (pc' := 61) C dL_comes_60 (by decide) rfl ?_
        refine g_goto (tgt := 83) C dL_comes_61 (by decide) ?_
        refine g_istore (pc' := 85) C dL_comes_83 rfl rfl ?_
        refine g_iload (pc' := 87) C dL_comes_85 rfl rfl ?_
        refine g_if_lt (tgt := 143) (pc' := 90) C dL_comes_87 (by decide) rfl (fun c4 => ?_) (fun c4 => absurd (by decide) c4)
        refine G_pick [0, 1, 2, 3, 4, 5, 6, 7, 8, 9, 10, 11] rfl (tail k 0 I2 J2 (by omega) (by omega) hO S2 (fun I3 hO3 S3 => ?_))
        refine ih (k + 1) I3 (mC0S h (mm J h) k J2) (by omega) hO3 (MI.c0 1 k J2 X2) ?_ (fun f c h1 h2 h3 h4 => ?_) hT
        · unfold mC0S; rw [nI_0] at S3; exact S3
        · rw [← hF f c h1 h2 h3 h4]; unfold mC0S; rw [upI_at, if_neg (by omega), upI_at, if_neg (by omega)]
    refine g_aload_n (pc' := 1) C dL_comes_0 rfl rfl ?_
    refine g_iconst (v := nI 4) (pc' := 2) C dL_comes_1 (by decide) rfl ?_
    refine g_iload_n (pc' := 3) C dL_comes_2 rfl rfl ?_
    refine g_imulN (pc' := 4) C dL_comes_3 rfl ?_
    refine g_iconst (v := nI 1) (pc' := 5) C dL_comes_4 (by decide) rfl ?_
    refine g_iaddN (pc' := 6) C dL_comes_5 rfl ?_
    refine g_iald (pc' := 7) C (4 * h + 1) rfl (by show _ < 64; omega) dL_comes_6 (al13 rfl) rfl rfl rfl ?_
    rw [(S.rA hh)]
    refine g_bipush (v := nI 16) (pc' := 9) C dL_comes_7 (by decide) rfl ?_
    refine g_iremN (r := mm J h) (pc' := 10) C (by omega) (by omega) (eA_m hm12 hr4) dL_comes_9 rfl ?_
    refine g_istore (pc' := 12) C dL_comes_10 rfl rfl ?_
    refine g_iload_n (pc' := 13) C dL_comes_12 rfl rfl ?_
    refine g_aload_n (pc' := 14) C dL_comes_13 rfl rfl ?_
    refine g_callS (pc' := 17) (As := [.int (nI h), .ref ((Kg K).2.2 13 1)]) (S := []) C cs_L_47 (w_speaker (sp := (J 13 17 h)) (S.rA hh) (by omega) (by omega) (by rw [eA_s hm12 hr4, S.spv hh])) dL_comes_14 ⟨rfl, by decide +kernel, by decide +kernel, (by decide +kernel : (parseMethodDescriptor yL_speaker.desc).map (fun d => d.parameters.length) = some 2)⟩ ⟨⟨Nat.le_of_ble_eq_true rfl, Nat.le_of_ble_eq_true rfl⟩, rfl, rfl⟩ rfl (Nat.le_of_ble_eq_true rfl) ⟨Nat.zero_le _, Nat.zero_le _⟩ rfl (fun v1 I1 P1 q => ?_)
    obtain ⟨rfl, q1, q2⟩ := q
    rw [q1, q2]
    refine g_istore (pc' := 19) C dL_comes_17 rfl rfl ?_
    refine g_iconst (v := nI 0) (pc' := 20) C dL_comes_19 (by decide) rfl ?_
    refine g_istore (pc' := 22) C dL_comes_20 rfl rfl ?_
    exact G_pick [0, 1, 2, 3, 4, 5, 6, 7, 8, 9, 10] rfl (loop (mh J h) 0 I J (by omega) Oth.rf X S (fun _ _ _ _ _ _ => rfl) (by unfold mCm; rw [if_pos e17]))
  · have e17n : ¬ J 13 17 h = -1 := by rw [e17]; exact nI_nm1 (by omega)
    have loop : ∀ (n k : Nat) (I2 J2 : wI), k + n = mh J h → Oth I I2 → MI y.1 y.2 J2 → YS ex y nw J2 (I2 13) → (∀ f c, f ≠ 11 → f ≠ 21 → f ≠ 22 → f ≠ 23 → J2 13 f c = J 13 f c) → mCmL h (mm J h) n k J2 = mCm h J → G K z I2 P O 0 0 22 [(0, .int (nI h)), (1, .ref ((Kg K).2.2 13 0)), (2, .ref ((Kg K).2.2 13 1)), (3, .ref ((Kg K).2.2 13 2)), (4, .ref ((Kg K).2.2 13 3)), (5, .ref ((Kg K).2.2 13 4)), (6, .ref ((Kg K).2.2 13 5)), (7, .ref ((Kg K).2.2 13 6)), (8, .int (nI (mm J h))), (9, .int (J 13 17 h)), (10, .int (nI k))] [] := by
      intro n
      induction n with
      | zero =>
        intro k I2 J2 hk hO X2 S2 hF hT
        have r3 : I2 13 1 (4 * h + 3) = nI (eH J h) := (S2.rH hh).trans (by unfold eH mh ntN; rw [hF _ _ (by decide) (by decide) (by decide) (by decide), hF _ _ (by decide) (by decide) (by decide) (by decide)])
        refine g_iload (pc' := 24) C dL_comes_22 rfl rfl ?_
        refine g_aload_n (pc' := 25) C dL_comes_24 rfl rfl ?_
        refine g_iconst (v := nI 4) (pc' := 26) C dL_comes_25 (by decide) rfl ?_
        refine g_iload_n (pc' := 27) C dL_comes_26 rfl rfl ?_
        refine g_imulN (pc' := 28) C dL_comes_27 rfl ?_
        refine g_iconst (v := nI 3) (pc' := 29) C dL_comes_28 (by decide) rfl ?_
        refine g_iaddN (pc' := 30) C dL_comes_29 rfl ?_
        refine g_iald (pc' := 31) C (4 * h + 3) rfl (by show _ < 64; omega) dL_comes_30 (al13 rfl) rfl rfl rfl ?_
        rw [r3]
        refine g_bipush (v := nI 16) (pc' := 33) C dL_comes_31 (by decide) rfl ?_
        refine g_iremN (r := mh J h) (pc' := 34) C (by omega) (by omega) (eH_h hH4) dL_comes_33 rfl ?_
        refine g_icmp_geN (tgt := 173) (pc' := 37) C (by omega) (by omega) dL_comes_34 (by decide) rfl (fun c1 => ?_) (fun c1 => absurd c1 (by omega))
        exact g_vret C hR dL_comes_173 ⟨rfl, rfl, hO, by rw [← hT]; exact S2⟩
      | succ n ih =>
        intro k I2 J2 hk hO X2 S2 hF hT
        have hk4 : k < 4 := by omega
        have r3 : I2 13 1 (4 * h + 3) = nI (eH J h) := (S2.rH hh).trans (by unfold eH mh ntN; rw [hF _ _ (by decide) (by decide) (by decide) (by decide), hF _ _ (by decide) (by decide) (by decide) (by decide)])
        have r2 : I2 13 1 (4 * h + 2) = nI (mfr J h) := (S2.rF X2 hh).trans (by unfold mfr; rw [hF _ _ (by decide) (by decide) (by decide) (by decide)])
        have hmsp : msp J2 h = msp J h := by unfold msp; rw [hF _ _ (by decide) (by decide) (by decide) (by decide)]
        have hmfr : mfr J2 h = mfr J h := by unfold mfr; rw [hF _ _ (by decide) (by decide) (by decide) (by decide)]
        have hat : mAt J2 h k = 1004 * msp J h + (mfr J h + k) := by unfold mAt; rw [hmsp, hmfr]; omega
        obtain ⟨-, w2, w3, w9⟩ := S2.w.1 (msp J h) hsp
        have rp : I2 13 5 (4 + msp J h) = nI (prN J2 (msp J h)) := w2.trans w3
        have X3 : MI y.1 y.2 (mCmS h (mm J h) k J2) := MI.cm 1 k J2 X2
        have hF2 : ∀ f c, f ≠ 11 → f ≠ 21 → f ≠ 22 → f ≠ 23 → mCmS h (mm J h) k J2 13 f c = J 13 f c := fun f c h1 h2 h3 h4 => by
          rw [mCmS_off h1 h2 h3 h4, hF f c h1 h2 h3 h4]
        have fin : ∀ (cost : Nat) (I3 J3 : wI), cost ≤ 99 → Oth I I3 → YS ex y nw J3 (I3 13) → upI (upI J3 13 21 (4 * h + k) (nI cost)) 13 11 (mm J h) (upI J3 13 21 (4 * h + k) (nI cost) 13 11 (mm J h) - nI cost) = mCmS h (mm J h) k J2 → G K z I3 P O 0 0 143 [(0, .int (nI h)), (1, .ref ((Kg K).2.2 13 0)), (2, .ref ((Kg K).2.2 13 1)), (3, .ref ((Kg K).2.2 13 2)), (4, .ref ((Kg K).2.2 13 3)), (5, .ref ((Kg K).2.2 13 4)), (6, .ref ((Kg K).2.2 13 5)), (7, .ref ((Kg K).2.2 13 6)), (8, .int (nI (mm J h))), (9, .int (J 13 17 h)), (10, .int (nI k)), (11, .int (nI cost))] [] := fun cost I3 J3 hc hO3 S3 e => tail k cost I3 J3 (by omega) hc hO3 S3 (fun I4 hO4 S4 => ih (k + 1) I4 (mCmS h (mm J h) k J2) (by omega) hO4 X3 (by rw [← e]; exact S4) hF2 hT)
        generalize hQ : 1004 * msp J h + (mfr J h + k) = Q at *
        have hQl : Q < 4016 := by omega
        obtain ⟨p1, p2⟩ := X2.py hQl
        have hM8 := S.M8
        refine g_iload (pc' := 24) C dL_comes_22 rfl rfl ?_
        refine g_aload_n (pc' := 25) C dL_comes_24 rfl rfl ?_
        refine g_iconst (v := nI 4) (pc' := 26) C dL_comes_25 (by decide) rfl ?_
        refine g_iload_n (pc' := 27) C dL_comes_26 rfl rfl ?_
        refine g_imulN (pc' := 28) C dL_comes_27 rfl ?_
        refine g_iconst (v := nI 3) (pc' := 29) C dL_comes_28 (by decide) rfl ?_
        refine g_iaddN (pc' := 30) C dL_comes_29 rfl ?_
        refine g_iald (pc' := 31) C (4 * h + 3) rfl (by show _ < 64; omega) dL_comes_30 (al13 rfl) rfl rfl rfl ?_
        rw [r3]
        refine g_bipush (v := nI 16) (pc' := 33) C dL_comes_31 (by decide) rfl ?_
        refine g_iremN (r := mh J h) (pc' := 34) C (by omega) (by omega) (eH_h hH4) dL_comes_33 rfl ?_
        refine g_icmp_geN (tgt := 173) (pc' := 37) C (by omega) (by omega) dL_comes_34 (by decide) rfl (fun c1 => absurd c1 (by omega)) (fun c1 => ?_)
        refine g_iload (pc' := 39) C dL_comes_37 rfl rfl ?_
        refine g_if_ge (tgt := 46) (pc' := 42) C dL_comes_39 (by decide) rfl (fun c2 => ?_) (fun c2 => absurd (by rw [e17]; exact nI_pos' (by omega)) c2)
        refine g_aload (pc' := 48) C dL_comes_46 rfl rfl ?_
        refine g_iconst (v := nI 4) (pc' := 49) C dL_comes_48 (by decide) rfl ?_
        refine g_iload (x := nI (msp J h)) (pc' := 51) C dL_comes_49 (by rw [← e17]; rfl) rfl ?_
        refine g_iaddN (pc' := 52) C dL_comes_51 rfl ?_
        refine g_iald (pc' := 53) C (4 + msp J h) rfl (by show _ < 14; omega) dL_comes_52 (al13 rfl) rfl rfl rfl ?_
        rw [rp]
        refine g_istore (pc' := 55) C dL_comes_53 rfl rfl ?_
        refine g_iload (pc' := 57) C dL_comes_55 rfl rfl ?_
        refine g_if_ge (tgt := 64) (pc' := 60) C dL_comes_57 (by decide) rfl (fun c3 => ?_) (fun c3 => absurd (by rw [e17]; exact nI_pos' (by omega)) c3)
        refine g_iload (x := nI (msp J h)) (pc' := 66) C dL_comes_64 (by rw [← e17]; rfl) rfl ?_
        refine g_aload_n (pc' := 67) C dL_comes_66 rfl rfl ?_
        refine g_iconst (v := nI 4) (pc' := 68) C dL_comes_67 (by decide) rfl ?_
        refine g_iload_n (pc' := 69) C dL_comes_68 rfl rfl ?_
        refine g_imulN (pc' := 70) C dL_comes_69 rfl ?_
        refine g_iconst (v := nI 2) (pc' := 71) C dL_comes_70 (by decide) rfl ?_
        refine g_iaddN (pc' := 72) C dL_comes_71 rfl ?_
        refine g_iald (pc' := 73) C (4 * h + 2) rfl (by show _ < 64; omega) dL_comes_72 (al13 rfl) rfl rfl rfl ?_
        rw [r2]
        refine g_iload (pc' := 75) C dL_comes_73 rfl rfl ?_
        refine g_iaddN (pc' := 76) C dL_comes_75 rfl ?_
        refine g_aload (pc' := 78) C dL_comes_76 rfl rfl ?_
        refine g_aload (pc' := 80) C dL_comes_78 rfl rfl ?_
        refine g_callS (pc' := 83) (As := [.int (nI (msp J h)), .int (nI (mfr J h + k)), .ref ((Kg K).2.2 13 3), .ref ((Kg K).2.2 13 6)]) (S := []) C cs_L_57 (w_paid (nw := nw) hsp (by omega) hn9 (fun k hk => ⟨(S2.u.1 k hk).1, (S2.u.1 k hk).2.1⟩) S2.q2) dL_comes_80 ⟨rfl, by decide +kernel, by decide +kernel, (by decide +kernel : (parseMethodDescriptor yL_paid.desc).map (fun d => d.parameters.length) = some 4)⟩ ⟨⟨Nat.le_of_ble_eq_true rfl, Nat.le_of_ble_eq_true rfl⟩, rfl, rfl⟩ rfl (Nat.le_of_ble_eq_true rfl) ⟨Nat.zero_le _, Nat.zero_le _⟩ rfl (fun v1 I1 P1 q => ?_)
        obtain ⟨q1, q2, q⟩ := q
        rw [q1, q2]
        rcases q with ⟨rfl, hno⟩ | ⟨kk, hkk, rfl, hku, -⟩
        · skip
          refine g_istore (pc' := 85) C dL_comes_83 rfl rfl ?_
          refine g_iload (pc' := 87) C dL_comes_85 rfl rfl ?_
          refine g_if_lt (tgt := 143) (pc' := 90) C dL_comes_87 (by decide) rfl (fun c4 => ?_) (fun c4 => absurd (by decide) c4)
          have h0 : mpy J2 Q = 0 := by rw [← hQ]; exact S2.u.miss S2.v hsp (by omega) (by omega) (fun j hj e => hno j hj ⟨e, by omega⟩)
          refine G_pick [0, 1, 2, 3, 4, 5, 6, 7, 8, 9, 10, 11] rfl (fin (prN J2 (msp J h)) I2 (upI (upI J2 13 22 Q 0) 13 23 Q 0) w9 hO (S2.zero hQ.symm hsp (by omega) (by omega) (Or.inl ⟨h0, rfl⟩)) ?_)
          rw [mCmS_eq hat h0 (if_pos rfl) (if_pos (Or.inl rfl)), hmsp, w3, upI_at _ _ _ _ _ 13 11, if_neg (by omega), upI_at _ _ _ _ _ 13 11, if_neg (by omega), upI_at _ _ _ _ _ 13 11, if_neg (by omega)]
        · obtain ⟨ht10, hjq⟩ := S2.u.hit S2.v hn9 hsp (by omega) hkk hku (by omega)
          unfold jpQ at hjq
          rw [hQ] at hjq
          by_cases hp0 : mpy J2 Q = 0
          · rw [if_pos hp0] at hjq; cases hjq
          rw [if_neg hp0] at hjq
          have hv : mpy J2 Q - 1 + 16 * amN J2 Q = vN (I2 13) kk := congrArg Prod.snd (Option.some.inj hjq)
          obtain ⟨am1, am2⟩ := S2.am Q hQl
          have rv : I2 13 4 kk = nI (vN (I2 13) kk) := (S2.u.1 kk hkk).2.2.1
          have hvl := (S2.u.1 kk hkk).2.2.2
          have hby : vN (I2 13) kk % 16 = mpy J2 Q - 1 := by omega
          have hbm : mpy J2 Q - 1 < y.1 := by omega
          have r5b : I2 13 0 (8 * (mpy J2 Q - 1) + 5) = J2 13 11 (mpy J2 Q - 1) := (S2.m.2.1 _ hbm).2.2.2.2.2.1
          refine g_istore (pc' := 85) C dL_comes_83 rfl rfl ?_
          refine g_iload (pc' := 87) C dL_comes_85 rfl rfl ?_
          refine g_if_lt (tgt := 143) (pc' := 90) C dL_comes_87 (by decide) rfl (fun c5 => absurd c5 (nI_pos (by omega))) (fun c5 => ?_)
          refine g_aload (pc' := 92) C dL_comes_90 rfl rfl ?_
          refine g_iload (pc' := 94) C dL_comes_92 rfl rfl ?_
          refine g_iald (pc' := 95) C (kk) rfl hkk dL_comes_94 (al13 rfl) rfl rfl rfl ?_
          rw [rv]
          refine g_bipush (v := nI 16) (pc' := 97) C dL_comes_95 (by decide) rfl ?_
          refine g_iremN (r := mpy J2 Q - 1) (pc' := 98) C (by omega) (by omega) hby dL_comes_97 rfl ?_
          refine g_istore (pc' := 100) C dL_comes_98 rfl rfl ?_
          refine g_iload (pc' := 102) C dL_comes_100 rfl rfl ?_
          refine g_iload (pc' := 104) C dL_comes_102 rfl rfl ?_
          refine g_icmp_neN (tgt := 111) (pc' := 107) C (by omega) (by omega) dL_comes_104 (by decide) rfl (fun c6 => ?_) (fun c6 => ?_)
          ·
            refine g_aload (pc' := 113) C dL_comes_111 rfl rfl ?_
            refine g_iload (pc' := 115) C dL_comes_113 rfl rfl ?_
            refine g_iald (pc' := 116) C (kk) rfl hkk dL_comes_115 (al13 rfl) rfl rfl rfl ?_
            rw [rv]
            refine g_bipush (v := nI 16) (pc' := 118) C dL_comes_116 (by decide) rfl ?_
            refine g_idivN (r := amN J2 Q) (pc' := 119) C (by omega) (by omega) (by omega) dL_comes_118 rfl ?_
            refine g_iconst (v := nI 2) (pc' := 120) C dL_comes_119 (by decide) rfl ?_
            refine g_idivN (r := amN J2 Q / 2) (pc' := 121) C (by omega) (by omega) rfl dL_comes_120 rfl ?_
            refine g_istore (pc' := 123) C dL_comes_121 rfl rfl ?_
            refine g_aload_n (pc' := 124) C dL_comes_123 rfl rfl ?_
            refine g_bipush (v := nI 8) (pc' := 126) C dL_comes_124 (by decide) rfl ?_
            refine g_iload (pc' := 128) C dL_comes_126 rfl rfl ?_
            refine g_imulN (pc' := 129) C dL_comes_128 rfl ?_
            refine g_iconst (v := nI 5) (pc' := 130) C dL_comes_129 (by decide) rfl ?_
            refine g_iaddN (pc' := 131) C dL_comes_130 rfl ?_
            refine g_dup2 (pc' := 132) C dL_comes_131 rfl rfl rfl ?_
            refine g_iald (pc' := 133) C (8 * (mpy J2 Q - 1) + 5) rfl (by show _ < 64; omega) dL_comes_132 (al13 rfl) rfl rfl rfl ?_
            rw [r5b]
            refine g_iload (pc' := 135) C dL_comes_133 rfl rfl ?_
            refine g_iadd (pc' := 136) C dL_comes_135 rfl ?_
            refine g_iast (pc' := 137) C (8 * (mpy J2 Q - 1) + 5) rfl (by show _ < 64; omega) dL_comes_136 (al13 rfl) (fun _ => rfl) rfl rfl ?_
            have hO3 : Oth I (upI I2 13 0 (8 * (mpy J2 Q - 1) + 5) ((J2 13 11 (mpy J2 Q - 1)) + nI (amN J2 Q / 2))) := hO.up
            have S3 : YS ex y nw (upI J2 13 11 (mpy J2 Q - 1) (J2 13 11 (mpy J2 Q - 1) + nI (amN J2 Q / 2))) ((upI I2 13 0 (8 * (mpy J2 Q - 1) + 5) ((J2 13 11 (mpy J2 Q - 1)) + nI (amN J2 Q / 2))) 13) := by rw [upI_13]; exact S2.bal hbm
            have u3 : uN ((upI I2 13 0 (8 * (mpy J2 Q - 1) + 5) ((J2 13 11 (mpy J2 Q - 1)) + nI (amN J2 Q / 2))) 13) kk = uN (I2 13) kk := by unfold uN; rw [upI_at, if_neg (by omega)]
            generalize (upI I2 13 0 (8 * (mpy J2 Q - 1) + 5) ((J2 13 11 (mpy J2 Q - 1)) + nI (amN J2 Q / 2))) = I3 at S3 hO3 u3 ⊢
            refine g_aload (pc' := 139) C dL_comes_137 rfl rfl ?_
            refine g_iload (pc' := 141) C dL_comes_139 rfl rfl ?_
            refine g_iconst (v := nI 0) (pc' := 142) C dL_comes_141 (by decide) rfl ?_
            refine g_iast (pc' := 143) C (kk) rfl hkk dL_comes_142 (al13 rfl) (fun _ => rfl) rfl rfl ?_
            have S4 : YS ex y nw (upI (upI (upI J2 13 11 (mpy J2 Q - 1) (J2 13 11 (mpy J2 Q - 1) + nI (amN J2 Q / 2))) 13 22 Q 0) 13 23 Q 0) ((upI I3 13 3 (kk) (nI 0)) 13) := by
              rw [upI_13, nI_0]
              exact S3.zero hQ.symm hsp (by omega) (by omega) (Or.inr ⟨kk, hkk, u3.trans hku, rfl⟩)
            have hO4 : Oth I (upI I3 13 3 (kk) (nI 0)) := hO3.up
            generalize (upI I3 13 3 (kk) (nI 0)) = I4 at S4 hO4 ⊢
            refine G_pick [0, 1, 2, 3, 4, 5, 6, 7, 8, 9, 10, 11] rfl (fin (amN J2 Q / 2) I4 _ (by omega) hO4 S4 ?_)
            have hnp : ¬ (mpy J2 Q = 0 ∨ mpy J2 Q = mm J h + 1) := by omega
            have hhalf : J2 13 23 Q / 2 = nI (amN J2 Q / 2) := by rw [am1, show (2 : Int32) = nI 2 from by decide, pk_div (by omega) (by omega) (by omega)]
            rw [mCmS_eq hat rfl (by rw [if_neg (fun q => hnp (Or.inl q)), if_neg (fun q => hnp (Or.inr q)), hhalf]) (by rw [if_neg hnp, hhalf])]
            rw [upI_at _ _ _ _ _ 13 11, if_neg (by omega), upI_at _ _ _ _ _ 13 11, if_neg (by omega), upI_at _ _ _ _ _ 13 11, if_neg (by omega)]
          ·
            refine g_iconst (v := nI 0) (pc' := 108) C dL_comes_107 (by decide) rfl ?_
            refine g_goto (tgt := 121) C dL_comes_108 (by decide) ?_
            refine g_istore (pc' := 123) C dL_comes_121 rfl rfl ?_
            refine g_aload_n (pc' := 124) C dL_comes_123 rfl rfl ?_
            refine g_bipush (v := nI 8) (pc' := 126) C dL_comes_124 (by decide) rfl ?_
            refine g_iload (pc' := 128) C dL_comes_126 rfl rfl ?_
            refine g_imulN (pc' := 129) C dL_comes_128 rfl ?_
            refine g_iconst (v := nI 5) (pc' := 130) C dL_comes_129 (by decide) rfl ?_
            refine g_iaddN (pc' := 131) C dL_comes_130 rfl ?_
            refine g_dup2 (pc' := 132) C dL_comes_131 rfl rfl rfl ?_
            refine g_iald (pc' := 133) C (8 * (mpy J2 Q - 1) + 5) rfl (by show _ < 64; omega) dL_comes_132 (al13 rfl) rfl rfl rfl ?_
            rw [r5b]
            refine g_iload (pc' := 135) C dL_comes_133 rfl rfl ?_
            refine g_iadd (pc' := 136) C dL_comes_135 rfl ?_
            refine g_iast (pc' := 137) C (8 * (mpy J2 Q - 1) + 5) rfl (by show _ < 64; omega) dL_comes_136 (al13 rfl) (fun _ => rfl) rfl rfl ?_
            have hO3 : Oth I (upI I2 13 0 (8 * (mpy J2 Q - 1) + 5) ((J2 13 11 (mpy J2 Q - 1)) + nI 0)) := hO.up
            have S3 : YS ex y nw (upI J2 13 11 (mpy J2 Q - 1) (J2 13 11 (mpy J2 Q - 1) + nI (0))) ((upI I2 13 0 (8 * (mpy J2 Q - 1) + 5) ((J2 13 11 (mpy J2 Q - 1)) + nI 0)) 13) := by rw [upI_13]; exact S2.bal hbm
            have u3 : uN ((upI I2 13 0 (8 * (mpy J2 Q - 1) + 5) ((J2 13 11 (mpy J2 Q - 1)) + nI 0)) 13) kk = uN (I2 13) kk := by unfold uN; rw [upI_at, if_neg (by omega)]
            generalize (upI I2 13 0 (8 * (mpy J2 Q - 1) + 5) ((J2 13 11 (mpy J2 Q - 1)) + nI 0)) = I3 at S3 hO3 u3 ⊢
            refine g_aload (pc' := 139) C dL_comes_137 rfl rfl ?_
            refine g_iload (pc' := 141) C dL_comes_139 rfl rfl ?_
            refine g_iconst (v := nI 0) (pc' := 142) C dL_comes_141 (by decide) rfl ?_
            refine g_iast (pc' := 143) C (kk) rfl hkk dL_comes_142 (al13 rfl) (fun _ => rfl) rfl rfl ?_
            have S4 : YS ex y nw (upI (upI (upI J2 13 11 (mpy J2 Q - 1) (J2 13 11 (mpy J2 Q - 1) + nI (0))) 13 22 Q 0) 13 23 Q 0) ((upI I3 13 3 (kk) (nI 0)) 13) := by
              rw [upI_13, nI_0]
              exact S3.zero hQ.symm hsp (by omega) (by omega) (Or.inr ⟨kk, hkk, u3.trans hku, rfl⟩)
            have hO4 : Oth I (upI I3 13 3 (kk) (nI 0)) := hO3.up
            generalize (upI I3 13 3 (kk) (nI 0)) = I4 at S4 hO4 ⊢
            refine G_pick [0, 1, 2, 3, 4, 5, 6, 7, 8, 9, 10, 11] rfl (fin 0 I4 _ (by omega) hO4 S4 ?_)
            have ep : mpy J2 Q = mm J h + 1 := by omega
            rw [mCmS_eq hat ep (by rw [if_neg (Nat.succ_ne_zero _), if_pos rfl]) (if_pos (Or.inr rfl)), nI_0, Int32.add_zero, upI_self, upI_at _ _ _ _ _ 13 11, if_neg (by omega), upI_at _ _ _ _ _ 13 11, if_neg (by omega), upI_at _ _ _ _ _ 13 11, if_neg (by omega)]
    refine g_aload_n (pc' := 1) C dL_comes_0 rfl rfl ?_
    refine g_iconst (v := nI 4) (pc' := 2) C dL_comes_1 (by decide) rfl ?_
    refine g_iload_n (pc' := 3) C dL_comes_2 rfl rfl ?_
    refine g_imulN (pc' := 4) C dL_comes_3 rfl ?_
    refine g_iconst (v := nI 1) (pc' := 5) C dL_comes_4 (by decide) rfl ?_
    refine g_iaddN (pc' := 6) C dL_comes_5 rfl ?_
    refine g_iald (pc' := 7) C (4 * h + 1) rfl (by show _ < 64; omega) dL_comes_6 (al13 rfl) rfl rfl rfl ?_
    rw [(S.rA hh)]
    refine g_bipush (v := nI 16) (pc' := 9) C dL_comes_7 (by decide) rfl ?_
    refine g_iremN (r := mm J h) (pc' := 10) C (by omega) (by omega) (eA_m hm12 hr4) dL_comes_9 rfl ?_
    refine g_istore (pc' := 12) C dL_comes_10 rfl rfl ?_
    refine g_iload_n (pc' := 13) C dL_comes_12 rfl rfl ?_
    refine g_aload_n (pc' := 14) C dL_comes_13 rfl rfl ?_
    refine g_callS (pc' := 17) (As := [.int (nI h), .ref ((Kg K).2.2 13 1)]) (S := []) C cs_L_47 (w_speaker (sp := (J 13 17 h)) (S.rA hh) (by omega) (by omega) (by rw [eA_s hm12 hr4, S.spv hh])) dL_comes_14 ⟨rfl, by decide +kernel, by decide +kernel, (by decide +kernel : (parseMethodDescriptor yL_speaker.desc).map (fun d => d.parameters.length) = some 2)⟩ ⟨⟨Nat.le_of_ble_eq_true rfl, Nat.le_of_ble_eq_true rfl⟩, rfl, rfl⟩ rfl (Nat.le_of_ble_eq_true rfl) ⟨Nat.zero_le _, Nat.zero_le _⟩ rfl (fun v1 I1 P1 q => ?_)
    obtain ⟨rfl, q1, q2⟩ := q
    rw [q1, q2]
    refine g_istore (pc' := 19) C dL_comes_17 rfl rfl ?_
    refine g_iconst (v := nI 0) (pc' := 20) C dL_comes_19 (by decide) rfl ?_
    refine g_istore (pc' := 22) C dL_comes_20 rfl rfl ?_
    exact G_pick [0, 1, 2, 3, 4, 5, 6, 7, 8, 9, 10] rfl (loop (mh J h) 0 I J (by omega) Oth.rf X S (fun _ _ _ _ _ _ => rfl) (by unfold mCm; rw [if_neg e17n]))
end WLmid
