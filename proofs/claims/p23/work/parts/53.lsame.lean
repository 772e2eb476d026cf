section WLsame
theorem mV15_0 {J : wI} {nw k : Nat} : mV15 J nw k (nI 0) = J 13 6 k := by unfold mV15; rw [if_pos (by decide)]
theorem mV15_4 {J : wI} {nw k : Nat} : mV15 J nw k (nI 4) = J 13 10 k := by unfold mV15; rw [if_neg (by decide), if_neg (by decide), if_neg (by decide), if_neg (by decide), if_pos (by decide)]
theorem mV15_5 {J : wI} {nw k : Nat} : mV15 J nw k (nI 5) = J 13 11 k := by unfold mV15; rw [if_neg (by decide), if_neg (by decide), if_neg (by decide), if_neg (by decide), if_neg (by decide), if_pos (by decide)]
theorem mV15_6 {J : wI} {nw k : Nat} : mV15 J nw k (nI 6) = J 13 12 k := by unfold mV15; rw [if_neg (by decide), if_neg (by decide), if_neg (by decide), if_neg (by decide), if_neg (by decide), if_neg (by decide), if_pos (by decide)]
theorem mV15_7 {J : wI} {nw k : Nat} : mV15 J nw k (nI 7) = tcO (th J 0) (nI k) nw 4 0 0 := by unfold mV15; rw [if_neg (by decide), if_neg (by decide), if_neg (by decide), if_neg (by decide), if_neg (by decide), if_neg (by decide), if_neg (by decide)]
theorem mV16_0 {J : wI} {h : Nat} : mV16 J h (nI 0) = J 13 14 h := by unfold mV16; rw [if_pos (by decide)]
theorem mV16_2 {J : wI} {h : Nat} : mV16 J h (nI 2) = J 13 16 h := by unfold mV16; rw [if_neg (by decide), if_neg (by decide), if_pos (by decide)]
theorem mV16_3 {J : wI} {h : Nat} : mV16 J h (nI 3) = J 13 17 h := by unfold mV16; rw [if_neg (by decide), if_neg (by decide), if_neg (by decide), if_pos (by decide)]
theorem mV16_4 {J : wI} {h : Nat} : mV16 J h (nI 4) = J 13 18 h := by unfold mV16; rw [if_neg (by decide), if_neg (by decide), if_neg (by decide), if_neg (by decide), if_pos (by decide)]
theorem mV16_5 {J : wI} {h : Nat} : mV16 J h (nI 5) = J 13 19 h := by unfold mV16; rw [if_neg (by decide), if_neg (by decide), if_neg (by decide), if_neg (by decide), if_neg (by decide), if_pos (by decide)]
theorem mV16_6 {J : wI} {h : Nat} : mV16 J h (nI 6) = (J 13 20 h &&& 1) + (J 13 20 h >>> ((1 : Int32) &&& 31)) := by unfold mV16; rw [if_neg (by decide), if_neg (by decide), if_neg (by decide), if_neg (by decide), if_neg (by decide), if_neg (by decide), if_pos (by decide)]
theorem mV16_7 {J : wI} {h : Nat} : mV16 J h (nI 7) = J 13 21 (4 * h) + J 13 21 (4 * h + 1) + J 13 21 (4 * h + 2) + J 13 21 (4 * h + 3) := by unfold mV16; rw [if_neg (by decide), if_neg (by decide), if_neg (by decide), if_neg (by decide), if_neg (by decide), if_neg (by decide), if_neg (by decide)]
theorem mAS_3 {J : wI} {wh t x : Int32} {h : Nat} : mAS J 3 wh t h x = if J 13 17 h = wh ∧ J 13 14 h = 0 ∧ mt4 (J 13 18 h) (J 13 19 h) t 1 = true then nI h else x := by
  have e : mIts J 3 wh h = decide (J 13 17 h = wh) := by unfold mIts; rw [if_neg (by decide), if_neg (by decide), if_neg (by decide)]
  unfold mAS
  rw [e]
  by_cases q : J 13 17 h = wh ∧ J 13 14 h = 0 ∧ mt4 (J 13 18 h) (J 13 19 h) t 1 = true
  · rw [if_pos q, if_pos ⟨decide_eq_true q.1, q.2⟩]
  · rw [if_neg q, if_neg (fun a => q ⟨of_decide_eq_true a.1, a.2⟩)]
abbrev sP (g : wG) (z : wZ) (I : wI) (P : wP) (O : wO) : wPost := fun v' g' z' I' P' O' => O' = O ∧ v' = some (.int 1) ∧ g' = g ∧ z' = z ∧ I' = I ∧ P' = P
set_option maxRecDepth 20000 in
theorem l_same3 {K : wK} {z : wZ} {I : wI} {P : wP} {O : wO} {nw : Nat} {J : wI} {sz : Nat} (hfl : (Kl K).stackTraces = false) (C : Cx K cL_same RL 16 (some .boolean) { frames := 7, cells := 200, slots := 1200, locals := 150 } z) (hR : Rq K (Kg K) z sz I P O 200 1200 (sP (Kg K) z I P O) (fun _ => False)) (S : Stt z nw I P J) (hz : 0 < z.1) (hn9 : nw ≤ 900) {v : Int32} : ∀ (n i c0 n0 : Nat), i + n = 4 → c0 ≤ 152 + 3 * i → n0 ≤ 912 + 18 * i → G K z I P O c0 n0 429 [(0, .ref ((Kg K).2.2 0 0)), (1, .int v), (2, .ref ((Kg K).2.2 13 0)), (3, .ref ((Kg K).2.2 13 1)), (4, .ref ((Kg K).2.2 13 2)), (5, .ref ((Kg K).2.2 13 3)), (6, .ref ((Kg K).2.2 13 4)), (7, .ref ((Kg K).2.2 13 6)), (8, .int (nI 1)), (9, .int (blL I z.1 0 0)), (10, .int (nI i))] [] := by
  have hM8 := S.y.M8
  have hN16 := S.y.N16
  have X := S.s.M
  intro n
  induction n with
  | zero =>
    intro i c0 n0 hi hc hn
    refine g_iload (pc' := 431) C dL_same_429 rfl rfl ?_
    refine g_iconst (v := nI 4) (pc' := 432) C dL_same_431 (by decide) rfl ?_
    refine g_icmp_geN (tgt := 675) (pc' := 435) C (by omega) (by omega) dL_same_432 (by decide) rfl (fun c1 => ?_) (fun c1 => absurd c1 (by omega))
    refine g_iload (pc' := 677) C dL_same_675 rfl rfl ?_
    refine g_if_eq (tgt := 693) (pc' := 680) C dL_same_677 (by decide) rfl (fun c2 => absurd c2 (by decide)) (fun c2 => ?_)
    refine g_aload_n (pc' := 681) C dL_same_680 rfl rfl ?_
    refine g_callV (pc' := 684) (As := []) (S := []) C cv_L_111 (m_X3_balances S.s.X) dL_same_681 (by first | assumption | exact rfl | exact al13 rfl | exact Nat.le_of_ble_eq_true rfl) rfl rfl ⟨rfl, by decide +kernel, by decide +kernel, (by decide +kernel : (parseMethodDescriptor yX3_balances.desc).map (fun d => d.parameters.length) = some 0)⟩ ⟨⟨Nat.le_of_ble_eq_true rfl, Nat.le_of_ble_eq_true rfl⟩, rfl, rfl⟩ rfl (Nat.le_of_ble_eq_true rfl) ⟨show _ ≤ 200 from by omega, show _ ≤ 1200 from by omega⟩ rfl (fun v1 I1 P1 q => ?_)
    obtain ⟨rfl, q1, q2⟩ := q
    rw [q1, q2]
    refine g_iload (pc' := 686) C dL_same_684 rfl rfl ?_
    refine g_icmp_ne (tgt := 693) (pc' := 689) C dL_same_686 (by decide) rfl (fun c3 => absurd rfl c3) (fun c3 => ?_)
    refine g_iconst (v := nI 1) (pc' := 690) C dL_same_689 (by decide) rfl ?_
    refine g_goto (tgt := 694) C dL_same_690 (by decide) ?_
    exact x_zret C hR dL_same_694 rfl (by omega) (by omega) ⟨rfl, by rw [nI1'], rfl, rfl, rfl, rfl⟩
  | succ n ih =>
    intro i c0 n0 hi hc hn
    have search : ∀ (wh t0 : Nat) (at_ : Int32), wh < 4 → t0 < 12 → ∀ (n2 h : Nat) (x : Int32), h + n2 = z.2 → mAL J 3 (nI wh) (nI (nw + t0)) n2 h x = mAL J 3 (nI wh) (nI (nw + t0)) z.2 0 (-1) → G K z I P O c0 n0 569 [(0, .ref ((Kg K).2.2 0 0)), (1, .int v), (2, .ref ((Kg K).2.2 13 0)), (3, .ref ((Kg K).2.2 13 1)), (4, .ref ((Kg K).2.2 13 2)), (5, .ref ((Kg K).2.2 13 3)), (6, .ref ((Kg K).2.2 13 4)), (7, .ref ((Kg K).2.2 13 6)), (8, .int (nI 1)), (9, .int (blL I z.1 0 0)), (10, .int (nI i)), (11, .int (nI wh)), (12, .int (nI (nw + t0))), (13, .int at_), (14, .int (mAL J 3 (nI wh) (nI (nw + t0)) z.2 0 (-1))), (15, .int (nI (z.2)))] [] → G K z I P O c0 n0 487 [(0, .ref ((Kg K).2.2 0 0)), (1, .int v), (2, .ref ((Kg K).2.2 13 0)), (3, .ref ((Kg K).2.2 13 1)), (4, .ref ((Kg K).2.2 13 2)), (5, .ref ((Kg K).2.2 13 3)), (6, .ref ((Kg K).2.2 13 4)), (7, .ref ((Kg K).2.2 13 6)), (8, .int (nI 1)), (9, .int (blL I z.1 0 0)), (10, .int (nI i)), (11, .int (nI wh)), (12, .int (nI (nw + t0))), (13, .int at_), (14, .int x), (15, .int (nI h))] [] := by
      intro wh t0 at_ hwh ht0 n2
      induction n2 with
      | zero =>
        intro h x hk hx kk
        have e : h = z.2 := by omega
        have ex : x = mAL J 3 (nI wh) (nI (nw + t0)) z.2 0 (-1) := hx
        subst e
        subst ex
        refine g_iload (pc' := 489) C dL_same_487 rfl rfl ?_
        refine g_aload (pc' := 491) C dL_same_489 rfl rfl ?_
        refine g_iconst (v := nI 1) (pc' := 492) C dL_same_491 (by decide) rfl ?_
        refine g_iald (pc' := 493) C (1) rfl (by show 1 < 3; omega) dL_same_492 (al13 rfl) rfl rfl rfl ?_
        rw [S.y.q1]
        refine g_icmp_geN (tgt := 569) (pc' := 496) C (by omega) (by omega) dL_same_493 (by decide) rfl (fun c1 => ?_) (fun c1 => absurd c1 (by omega))
        exact kk
      | succ n2 ih2 =>
        intro h x hk hx kk
        have hh : h < z.2 := by omega
        have hm12 : mm J h < 12 := X.mt2 hh
        have hr4 := S.y.rm4 hh
        have hs4 := S.y.sp4 hh
        have hlt := eA_lt hm12 hr4 hs4
        have hH4 := X.hr4 hh
        have hHlt := eH_lt hH4 (S.y.nt3 hh)
        obtain ⟨e18, f9⟩ := X.fr hh
        have e19 := X.hr hh
        have hx2 : mAL J 3 (nI wh) (nI (nw + t0)) n2 (h + 1) (mAS J 3 (nI wh) (nI (nw + t0)) h x) = mAL J 3 (nI wh) (nI (nw + t0)) z.2 0 (-1) := hx
        have hcond : (J 13 17 h = nI wh ∧ J 13 14 h = 0 ∧ mt4 (J 13 18 h) (J 13 19 h) (nI (nw + t0)) 1 = true) ↔ (J 13 17 h = nI wh ∧ J 13 14 h = 0 ∧ mfr J h ≤ nw + t0 ∧ nw + t0 < mfr J h + mh J h) := by
          rw [e18, e19, mt4_t (by omega) (by omega) (by omega)]
        refine g_iload (pc' := 489) C dL_same_487 rfl rfl ?_
        refine g_aload (pc' := 491) C dL_same_489 rfl rfl ?_
        refine g_iconst (v := nI 1) (pc' := 492) C dL_same_491 (by decide) rfl ?_
        refine g_iald (pc' := 493) C (1) rfl (by show 1 < 3; omega) dL_same_492 (al13 rfl) rfl rfl rfl ?_
        rw [S.y.q1]
        refine g_icmp_geN (tgt := 569) (pc' := 496) C (by omega) (by omega) dL_same_493 (by decide) rfl (fun c1 => absurd c1 (by omega)) (fun c1 => ?_)
        refine g_aload_n (pc' := 497) C dL_same_496 rfl rfl ?_
        refine g_iconst (v := nI 4) (pc' := 498) C dL_same_497 (by decide) rfl ?_
        refine g_iload (pc' := 500) C dL_same_498 rfl rfl ?_
        refine g_imulN (pc' := 501) C dL_same_500 rfl ?_
        refine g_iald (pc' := 502) C (4 * h) rfl (by show _ < 64; omega) dL_same_501 (al13 rfl) rfl rfl rfl ?_
        rw [(S.y.rS hh)]
        refine g_if_ne (tgt := 559) (pc' := 505) C dL_same_502 (by decide) rfl (fun c2 => ?_) (fun c2 => ?_)
        ·
          have g1 : ¬ J 13 14 h = 0 := c2
          refine g_iload (pc' := 561) C dL_same_559 rfl rfl ?_
          refine g_istore (pc' := 563) C dL_same_561 rfl rfl ?_
          refine g_iinc (pc' := 566) C dL_same_563 rfl (iiN _) rfl rfl ?_
          refine g_goto (tgt := 487) C dL_same_566 (by decide) ?_
          refine G_pick [0, 1, 2, 3, 4, 5, 6, 7, 8, 9, 10, 11, 12, 13, 14, 15] rfl (ih2 (h + 1) x (by omega) ?_ kk)
          rw [← hx2, mAS_3, if_neg (fun a => (fun q => g1 q.2.1 : ¬ (J 13 17 h = nI wh ∧ J 13 14 h = 0 ∧ mfr J h ≤ nw + t0 ∧ nw + t0 < mfr J h + mh J h)) (hcond.mp a))]
        ·
          have g1 : J 13 14 h = 0 := c2
          refine g_aload_n (pc' := 506) C dL_same_505 rfl rfl ?_
          refine g_iconst (v := nI 4) (pc' := 507) C dL_same_506 (by decide) rfl ?_
          refine g_iload (pc' := 509) C dL_same_507 rfl rfl ?_
          refine g_imulN (pc' := 510) C dL_same_509 rfl ?_
          refine g_iconst (v := nI 2) (pc' := 511) C dL_same_510 (by decide) rfl ?_
          refine g_iaddN (pc' := 512) C dL_same_511 rfl ?_
          refine g_iald (pc' := 513) C (4 * h + 2) rfl (by show _ < 64; omega) dL_same_512 (al13 rfl) rfl rfl rfl ?_
          rw [(S.y.rF X hh)]
          refine g_iload (pc' := 515) C dL_same_513 rfl rfl ?_
          refine g_icmp_gtN (tgt := 559) (pc' := 518) C (by omega) (by omega) dL_same_515 (by decide) rfl (fun c3 => ?_) (fun c3 => ?_)
          ·
            have g2 : nw + t0 < mfr J h := c3
            refine g_iload (pc' := 561) C dL_same_559 rfl rfl ?_
            refine g_istore (pc' := 563) C dL_same_561 rfl rfl ?_
            refine g_iinc (pc' := 566) C dL_same_563 rfl (iiN _) rfl rfl ?_
            refine g_goto (tgt := 487) C dL_same_566 (by decide) ?_
            refine G_pick [0, 1, 2, 3, 4, 5, 6, 7, 8, 9, 10, 11, 12, 13, 14, 15] rfl (ih2 (h + 1) x (by omega) ?_ kk)
            rw [← hx2, mAS_3, if_neg (fun a => (fun q => absurd q.2.2.1 (by omega) : ¬ (J 13 17 h = nI wh ∧ J 13 14 h = 0 ∧ mfr J h ≤ nw + t0 ∧ nw + t0 < mfr J h + mh J h)) (hcond.mp a))]
          ·
            have g2 : mfr J h ≤ nw + t0 := c3
            refine g_iload (pc' := 520) C dL_same_518 rfl rfl ?_
            refine g_aload_n (pc' := 521) C dL_same_520 rfl rfl ?_
            refine g_iconst (v := nI 4) (pc' := 522) C dL_same_521 (by decide) rfl ?_
            refine g_iload (pc' := 524) C dL_same_522 rfl rfl ?_
            refine g_imulN (pc' := 525) C dL_same_524 rfl ?_
            refine g_iconst (v := nI 2) (pc' := 526) C dL_same_525 (by decide) rfl ?_
            refine g_iaddN (pc' := 527) C dL_same_526 rfl ?_
            refine g_iald (pc' := 528) C (4 * h + 2) rfl (by show _ < 64; omega) dL_same_527 (al13 rfl) rfl rfl rfl ?_
            rw [(S.y.rF X hh)]
            refine g_aload_n (pc' := 529) C dL_same_528 rfl rfl ?_
            refine g_iconst (v := nI 4) (pc' := 530) C dL_same_529 (by decide) rfl ?_
            refine g_iload (pc' := 532) C dL_same_530 rfl rfl ?_
            refine g_imulN (pc' := 533) C dL_same_532 rfl ?_
            refine g_iconst (v := nI 3) (pc' := 534) C dL_same_533 (by decide) rfl ?_
            refine g_iaddN (pc' := 535) C dL_same_534 rfl ?_
            refine g_iald (pc' := 536) C (4 * h + 3) rfl (by show _ < 64; omega) dL_same_535 (al13 rfl) rfl rfl rfl ?_
            rw [(S.y.rH hh)]
            refine g_bipush (v := nI 16) (pc' := 538) C dL_same_536 (by decide) rfl ?_
            refine g_iremN (r := mh J h) (pc' := 539) C (by omega) (by omega) (eH_h hH4) dL_same_538 rfl ?_
            refine g_iaddN (pc' := 540) C dL_same_539 rfl ?_
            refine g_icmp_geN (tgt := 559) (pc' := 543) C (by omega) (by omega) dL_same_540 (by decide) rfl (fun c4 => ?_) (fun c4 => ?_)
            ·
              have g3 : mfr J h + mh J h ≤ nw + t0 := c4
              refine g_iload (pc' := 561) C dL_same_559 rfl rfl ?_
              refine g_istore (pc' := 563) C dL_same_561 rfl rfl ?_
              refine g_iinc (pc' := 566) C dL_same_563 rfl (iiN _) rfl rfl ?_
              refine g_goto (tgt := 487) C dL_same_566 (by decide) ?_
              refine G_pick [0, 1, 2, 3, 4, 5, 6, 7, 8, 9, 10, 11, 12, 13, 14, 15] rfl (ih2 (h + 1) x (by omega) ?_ kk)
              rw [← hx2, mAS_3, if_neg (fun a => (fun q => absurd q.2.2.2 (by omega) : ¬ (J 13 17 h = nI wh ∧ J 13 14 h = 0 ∧ mfr J h ≤ nw + t0 ∧ nw + t0 < mfr J h + mh J h)) (hcond.mp a))]
            ·
              have g3 : nw + t0 < mfr J h + mh J h := c4
              refine g_iload (pc' := 545) C dL_same_543 rfl rfl ?_
              refine g_aload_n (pc' := 546) C dL_same_545 rfl rfl ?_
              refine g_callS (pc' := 549) (As := [.int (nI h), .ref ((Kg K).2.2 13 1)]) (S := []) C cs_L_47 (w_speaker (sp := (J 13 17 h)) (S.y.rA hh) (by omega) (by omega) (by rw [eA_s hm12 hr4, S.y.spv hh])) dL_same_546 ⟨rfl, by decide +kernel, by decide +kernel, (by decide +kernel : (parseMethodDescriptor yL_speaker.desc).map (fun d => d.parameters.length) = some 2)⟩ ⟨⟨Nat.le_of_ble_eq_true rfl, Nat.le_of_ble_eq_true rfl⟩, rfl, rfl⟩ rfl (Nat.le_of_ble_eq_true rfl) ⟨show _ ≤ 200 from by omega, show _ ≤ 1200 from by omega⟩ rfl (fun v1 I1 P1 q => ?_)
              obtain ⟨rfl, q1, q2⟩ := q
              rw [q1, q2]
              refine g_iload (pc' := 551) C dL_same_549 rfl rfl ?_
              refine g_icmp_ne (tgt := 559) (pc' := 554) C dL_same_551 (by decide) rfl (fun c5 => ?_) (fun c5 => ?_)
              ·
                have g4 : ¬ J 13 17 h = nI wh := c5
                refine g_iload (pc' := 561) C dL_same_559 rfl rfl ?_
                refine g_istore (pc' := 563) C dL_same_561 rfl rfl ?_
                refine g_iinc (pc' := 566) C dL_same_563 rfl (iiN _) rfl rfl ?_
                refine g_goto (tgt := 487) C dL_same_566 (by decide) ?_
                refine G_pick [0, 1, 2, 3, 4, 5, 6, 7, 8, 9, 10, 11, 12, 13, 14, 15] rfl (ih2 (h + 1) x (by omega) ?_ kk)
                rw [← hx2, mAS_3, if_neg (fun a => (fun q => g4 q.1 : ¬ (J 13 17 h = nI wh ∧ J 13 14 h = 0 ∧ mfr J h ≤ nw + t0 ∧ nw + t0 < mfr J h + mh J h)) (hcond.mp a))]
              ·
                have g4 : J 13 17 h = nI wh := c5
                refine g_iload (pc' := 556) C dL_same_554 rfl rfl ?_
                refine g_goto (tgt := 561) C dL_same_556 (by decide) ?_
                refine g_istore (pc' := 563) C dL_same_561 rfl rfl ?_
                refine g_iinc (pc' := 566) C dL_same_563 rfl (iiN _) rfl rfl ?_
                refine g_goto (tgt := 487) C dL_same_566 (by decide) ?_
                refine G_pick [0, 1, 2, 3, 4, 5, 6, 7, 8, 9, 10, 11, 12, 13, 14, 15] rfl (ih2 (h + 1) (nI h) (by omega) ?_ kk)
                rw [← hx2, mAS_3, if_pos (hcond.mpr ⟨g4, g1, g2, g3⟩)]
    refine g_iload (pc' := 431) C dL_same_429 rfl rfl ?_
    refine g_iconst (v := nI 4) (pc' := 432) C dL_same_431 (by decide) rfl ?_
    refine g_icmp_geN (tgt := 675) (pc' := 435) C (by omega) (by omega) dL_same_432 (by decide) rfl (fun c1 => absurd c1 (by omega)) (fun c1 => ?_)
    refine g_iload (pc' := 437) C dL_same_435 rfl rfl ?_
    refine g_if_eq (tgt := 675) (pc' := 440) C dL_same_437 (by decide) rfl (fun c2 => absurd c2 (by decide)) (fun c2 => ?_)
    refine g_iload_n (pc' := 441) C dL_same_440 rfl rfl ?_
    refine g_iload (pc' := 443) C dL_same_441 rfl rfl ?_
    refine g_ishr (pc' := 444) C dL_same_443 rfl ?_
    refine g_iconst (v := nI 4) (pc' := 445) C dL_same_444 (by decide) rfl ?_
    refine g_callS (pc' := 448) (As := [.int (v >>> (nI i &&& 31)), .int (nI 4)]) (S := []) C cs_L_65 (w_low (b := 4) (by omega) (by omega)) dL_same_445 ⟨rfl, by decide +kernel, by decide +kernel, (by decide +kernel : (parseMethodDescriptor yL_low.desc).map (fun d => d.parameters.length) = some 2)⟩ ⟨⟨Nat.le_of_ble_eq_true rfl, Nat.le_of_ble_eq_true rfl⟩, rfl, rfl⟩ rfl (Nat.le_of_ble_eq_true rfl) ⟨show _ ≤ 200 from by omega, show _ ≤ 1200 from by omega⟩ rfl (fun v1 I1 P1 q => ?_)
    obtain ⟨rfl, q1, q2⟩ := q
    rw [q1, q2]
    obtain ⟨wh, hwh, ewh⟩ : ∃ r, r < 4 ∧ lowN (v >>> (nI i &&& 31)) 4 = r := ⟨_, lowN_lt (by omega), rfl⟩
    rw [ewh]
    refine g_istore (pc' := 450) C dL_same_448 rfl rfl ?_
    refine g_aload (pc' := 452) C dL_same_450 rfl rfl ?_
    refine g_iconst (v := nI 2) (pc' := 453) C dL_same_452 (by decide) rfl ?_
    refine g_iald (pc' := 454) C (2) rfl (by show 2 < 3; omega) dL_same_453 (al13 rfl) rfl rfl rfl ?_
    rw [S.y.q2]
    refine g_iload_n (pc' := 455) C dL_same_454 rfl rfl ?_
    refine g_iconst (v := nI 2) (pc' := 456) C dL_same_455 (by decide) rfl ?_
    refine g_iload (pc' := 458) C dL_same_456 rfl rfl ?_
    refine g_imulN (pc' := 459) C dL_same_458 rfl ?_
    refine g_ishr (pc' := 460) C dL_same_459 rfl ?_
    refine g_bipush (v := nI 12) (pc' := 462) C dL_same_460 (by decide) rfl ?_
    refine g_callS (pc' := 465) (As := [.int (v >>> (nI (2 * i) &&& 31)), .int (nI 12)]) (S := [.int (nI nw)]) C cs_L_65 (w_low (b := 12) (by omega) (by omega)) dL_same_462 ⟨rfl, by decide +kernel, by decide +kernel, (by decide +kernel : (parseMethodDescriptor yL_low.desc).map (fun d => d.parameters.length) = some 2)⟩ ⟨⟨Nat.le_of_ble_eq_true rfl, Nat.le_of_ble_eq_true rfl⟩, rfl, rfl⟩ rfl (Nat.le_of_ble_eq_true rfl) ⟨show _ ≤ 200 from by omega, show _ ≤ 1200 from by omega⟩ rfl (fun v1 I1 P1 q => ?_)
    obtain ⟨rfl, q1, q2⟩ := q
    rw [q1, q2]
    obtain ⟨t0, ht0, et0⟩ : ∃ r, r < 12 ∧ lowN (v >>> (nI (2 * i) &&& 31)) 12 = r := ⟨_, lowN_lt (by omega), rfl⟩
    rw [et0]
    refine g_iaddN (pc' := 466) C dL_same_465 rfl ?_
    refine g_istore (pc' := 468) C dL_same_466 rfl rfl ?_
    refine g_iload (pc' := 470) C dL_same_468 rfl rfl ?_
    refine g_iload (pc' := 472) C dL_same_470 rfl rfl ?_
    refine g_aload (pc' := 474) C dL_same_472 rfl rfl ?_
    refine g_aload (pc' := 476) C dL_same_474 rfl rfl ?_
    refine g_callS (pc' := 479) (As := [.int (nI wh), .int (nI (nw + t0)), .ref ((Kg K).2.2 13 3), .ref ((Kg K).2.2 13 6)]) (S := []) C cs_L_57 (w_paid (nw := nw) hwh (by omega) (by omega) (fun k hk => ⟨(S.y.u.1 k hk).1, (S.y.u.1 k hk).2.1⟩) S.y.q2) dL_same_476 ⟨rfl, by decide +kernel, by decide +kernel, (by decide +kernel : (parseMethodDescriptor yL_paid.desc).map (fun d => d.parameters.length) = some 4)⟩ ⟨⟨Nat.le_of_ble_eq_true rfl, Nat.le_of_ble_eq_true rfl⟩, rfl, rfl⟩ rfl (Nat.le_of_ble_eq_true rfl) ⟨show _ ≤ 200 from by omega, show _ ≤ 1200 from by omega⟩ rfl (fun v1 I1 P1 q => ?_)
    obtain ⟨q1, q2, q⟩ := q
    rw [q1, q2]
    clear q1 q2
    obtain ⟨at_, ev, hat⟩ : ∃ at_ : Int32, v1 = some (.int at_) ∧ ((at_ = -1 ∧ ∀ j, j < 64 → ¬ (uN (I 13) j = wh + 1 + 8 * (nw + t0) ∧ nw < nw + t0)) ∨ ∃ k, k < 64 ∧ at_ = nI k ∧ uN (I 13) k = wh + 1 + 8 * (nw + t0) ∧ nw < nw + t0) := by
      rcases q with ⟨e, q⟩ | ⟨k, hk, e, q⟩
      · exact ⟨_, e, Or.inl ⟨rfl, q⟩⟩
      · exact ⟨_, e, Or.inr ⟨k, hk, rfl, q⟩⟩
    rw [ev]
    clear ev q
    refine g_istore (pc' := 481) C dL_same_479 rfl rfl ?_
    refine g_iconst (v := (-1)) (pc' := 482) C dL_same_481 (by decide) rfl ?_
    refine g_istore (pc' := 484) C dL_same_482 rfl rfl ?_
    refine g_iconst (v := nI 0) (pc' := 485) C dL_same_484 (by decide) rfl ?_
    refine g_istore (pc' := 487) C dL_same_485 rfl rfl ?_
    refine G_pick [0, 1, 2, 3, 4, 5, 6, 7, 8, 9, 10, 11, 12, 13, 14, 15] rfl (search wh t0 at_ hwh ht0 z.2 0 (-1) (by omega) rfl ?_)
    have hpbv : ∀ pb : Int32, pb = (if nI (nw + t0) ≤ J 12 0 1 then -1 else J 13 22 (1004 * wh + (nw + t0)) - 1) → (at_ = -1 ∧ pb = -1) ∨ ∃ k, k < 64 ∧ at_ = nI k ∧ pb = nI (vN (I 13) k % 16) := by
      intro pb hpb
      rw [S.y.jn] at hpb
      obtain ⟨p1, p2⟩ := X.py (q := 1004 * wh + (nw + t0)) (by omega)
      rcases hat with ⟨e, hno⟩ | ⟨k, hk, e, hu, ht⟩
      · refine Or.inl ⟨e, ?_⟩
        by_cases h0 : t0 = 0
        · rw [hpb, if_pos (nI_le (by omega) (by omega))]
        · rw [hpb, if_neg (nI_ge (by omega) (by omega)), p1, S.y.u.miss S.y.v hwh (by omega) (by omega) (fun j hj q => hno j hj ⟨q, by omega⟩)]
          decide
      · refine Or.inr ⟨k, hk, e, ?_⟩
        obtain ⟨-, hjq⟩ := S.y.u.hit S.y.v S.y.n9 hwh ht hk hu (by omega)
        unfold jpQ at hjq
        by_cases hp0 : mpy J (1004 * wh + (nw + t0)) = 0
        · rw [if_pos hp0] at hjq; cases hjq
        · rw [if_neg hp0] at hjq
          have hv : mpy J (1004 * wh + (nw + t0)) - 1 + 16 * amN J (1004 * wh + (nw + t0)) = vN (I 13) k := congrArg Prod.snd (Option.some.inj hjq)
          rw [hpb, if_neg (nI_ge (by omega) (by omega)), p1, by_pr (by omega), show vN (I 13) k % 16 = mpy J (1004 * wh + (nw + t0)) - 1 by omega]
    obtain ⟨pb, hpb⟩ : ∃ pb : Int32, (if nI (nw + t0) ≤ J 12 0 1 then (-1 : Int32) else J 13 22 (1004 * wh + (nw + t0)) - 1) = pb := ⟨_, rfl⟩
    have hpv := hpbv pb hpb.symm
    refine g_iload_n (pc' := 570) C dL_same_569 rfl rfl ?_
    refine g_iconst (v := nI 3) (pc' := 571) C dL_same_570 (by decide) rfl ?_
    refine g_ishr (pc' := 572) C dL_same_571 rfl ?_
    refine g_aload (pc' := 574) C dL_same_572 rfl rfl ?_
    refine g_iconst (v := nI 0) (pc' := 575) C dL_same_574 (by decide) rfl ?_
    refine g_iald (pc' := 576) C (0) rfl (by show 0 < 3; omega) dL_same_575 (al13 rfl) rfl rfl rfl ?_
    rw [S.y.q0]
    refine g_callS (pc' := 579) (As := [.int (v >>> (nI 3 &&& 31)), .int (nI z.1)]) (S := []) C cs_L_65 (w_low (b := z.1) hz (by omega)) dL_same_576 ⟨rfl, by decide +kernel, by decide +kernel, (by decide +kernel : (parseMethodDescriptor yL_low.desc).map (fun d => d.parameters.length) = some 2)⟩ ⟨⟨Nat.le_of_ble_eq_true rfl, Nat.le_of_ble_eq_true rfl⟩, rfl, rfl⟩ rfl (Nat.le_of_ble_eq_true rfl) ⟨show _ ≤ 200 from by omega, show _ ≤ 1200 from by omega⟩ rfl (fun v1 I1 P1 q => ?_)
    obtain ⟨rfl, q1, q2⟩ := q
    rw [q1, q2]
    obtain ⟨j, hj, ej⟩ : ∃ r, r < z.1 ∧ lowN (v >>> (nI 3 &&& 31)) z.1 = r := ⟨_, lowN_lt hz, rfl⟩
    rw [ej]
    refine g_istore (pc' := 581) C dL_same_579 rfl rfl ?_
    refine g_aload_n (pc' := 582) C dL_same_581 rfl rfl ?_
    refine g_iload (pc' := 584) C dL_same_582 rfl rfl ?_
    refine g_iload (pc' := 586) C dL_same_584 rfl rfl ?_
    refine x_callV (pc' := 589) (mc := 1) (ms := 6) (As := [.int (nI wh), .int (nI (nw + t0))]) (S := []) (post := fun _ => pX (cK17 (nI wh) (nI (nw + t0))) (Kg K) z (some (.int (cV17 I P (nI wh) (nI (nw + t0))))) I P O) C hR.k cv_L_102 (fun sz => m_X3_paidBy hfl S.s.X sz) dL_same_586 (by first | assumption | exact rfl | exact al13 rfl | exact Nat.le_of_ble_eq_true rfl) rfl rfl ⟨rfl, by decide +kernel, by decide +kernel, (by decide +kernel : (parseMethodDescriptor yX3_paidBy.desc).map (fun d => d.parameters.length) = some 2)⟩ ⟨⟨Nat.le_of_ble_eq_true rfl, Nat.le_of_ble_eq_true rfl⟩, rfl, rfl⟩ rfl (Nat.le_of_ble_eq_true rfl) ⟨show _ ≤ 200 from by omega, show _ ≤ 1200 from by omega⟩ rfl (fun E hE => ?_) (fun sz' v' g' z' I' P' O' hA' hp => ?_)
    · obtain ⟨q, hq, hkq⟩ := hE
      rw [(paidBy_v S.s hwh (t := nw + t0) (by omega)).1] at hkq
      subst hkq
      simp only [List.mem_cons, List.not_mem_nil, or_false, Prod.mk.injEq] at hq
      exact absurd hq.1 (by decide)
    obtain ⟨hkq, qv, qg, qz, qI, qP, qO⟩ := hp
    rw [qv, qg, qz, qI, qP, qO, Kw_self, (paidBy_v S.s hwh (t := nw + t0) (by omega)).2, hpb]
    clear hkq qv qg qz qI qP qO
    rcases hpv with ⟨rfl, e2⟩ | ⟨k, hk, rfl, e2⟩
    ·
      refine g_iload (pc' := 591) C dL_same_589 rfl rfl ?_
      refine g_if_ge (tgt := 598) (pc' := 594) C dL_same_591 (by decide) rfl (fun c1 => absurd c1 (by decide)) (fun c1 => ?_)
      refine g_iconst (v := (-1)) (pc' := 595) C dL_same_594 (by decide) rfl ?_
      refine g_goto (tgt := 606) C dL_same_595 (by decide) ?_
      refine g_icmp_ne (tgt := 666) (pc' := 609) C dL_same_606 (by decide) rfl (fun c2 => absurd e2 c2) (fun c2 => ?_)
      refine g_aload_n (pc' := 610) C dL_same_609 rfl rfl ?_
      refine g_iconst (v := 3) (pc' := 611) C dL_same_610 (by decide) rfl ?_
      refine g_iload (pc' := 613) C dL_same_611 rfl rfl ?_
      refine g_iload (pc' := 615) C dL_same_613 rfl rfl ?_
      refine x_callV (pc' := 618) (mc := 1) (ms := 6) (As := [.int 3, .int (nI wh), .int (nI (nw + t0))]) (S := []) (post := fun _ => pX (cK14 3 (nI wh) (nI (nw + t0))) (Kg K) z (some (.int (caL I P 3 (nI wh) (nI (nw + t0)) z.2 0))) I P O) C hR.k cv_L_105 (fun sz => m_X3_at hfl S.s.X sz) dL_same_615 (by first | assumption | exact rfl | exact al13 rfl | exact Nat.le_of_ble_eq_true rfl) rfl rfl ⟨rfl, by decide +kernel, by decide +kernel, (by decide +kernel : (parseMethodDescriptor yX3_at.desc).map (fun d => d.parameters.length) = some 3)⟩ ⟨⟨Nat.le_of_ble_eq_true rfl, Nat.le_of_ble_eq_true rfl⟩, rfl, rfl⟩ rfl (Nat.le_of_ble_eq_true rfl) ⟨show _ ≤ 200 from by omega, show _ ≤ 1200 from by omega⟩ rfl (fun E hE => ?_) (fun sz' v' g' z' I' P' O' hA' hp => ?_)
      · obtain ⟨q, hq, hkq⟩ := hE
        rw [(at_v S.s hwh (t := nw + t0) (by omega)).1] at hkq
        subst hkq
        simp only [List.mem_cons, List.not_mem_nil, or_false, Prod.mk.injEq] at hq
        rcases hq with ⟨q, -⟩ | ⟨q, -⟩ <;> exact absurd q (by decide)
      obtain ⟨hkq, qv, qg, qz, qI, qP, qO⟩ := hp
      rw [qv, qg, qz, qI, qP, qO, Kw_self, (at_v S.s hwh (t := nw + t0) (by omega)).2]
      clear hkq qv qg qz qI qP qO
      refine g_iload (pc' := 620) C dL_same_618 rfl rfl ?_
      refine g_icmp_ne (tgt := 666) (pc' := 623) C dL_same_620 (by decide) rfl (fun c3 => absurd rfl c3) (fun c3 => ?_)
      refine g_aload_n (pc' := 624) C dL_same_623 rfl rfl ?_
      refine g_iload (pc' := 626) C dL_same_624 rfl rfl ?_
      refine g_iload (pc' := 628) C dL_same_626 rfl rfl ?_
      refine g_iload (pc' := 630) C dL_same_628 rfl rfl ?_
      refine g_iload (pc' := 632) C dL_same_630 rfl rfl ?_
      refine g_iconst (v := nI 1) (pc' := 633) C dL_same_632 (by decide) rfl ?_
      refine g_iload (pc' := 635) C dL_same_633 rfl rfl ?_
      refine g_iaddN (pc' := 636) C dL_same_635 rfl ?_
      refine x_callV (pc' := 639) (mc := 1) (ms := 6) (As := [.int (nI j), .int (nI i), .int (nI wh), .int (nI (nw + t0)), .int (nI (1 + i))]) (S := []) (post := fun _ => pX (cK13 z.1 (nI j) (nI i) (nI wh) (nI (nw + t0)) (nI (1 + i))) (Kg K) z (some (.int (crL I P none (nI j).toNatClampNeg (nI i) (nI wh) (nI (nw + t0)) (nI (1 + i)) z.2 0 0))) I P O) C hR.k cv_L_109 (fun sz => m_X3_clash hfl S.s.X sz) dL_same_636 (by first | assumption | exact rfl | exact al13 rfl | exact Nat.le_of_ble_eq_true rfl) rfl rfl ⟨rfl, by decide +kernel, by decide +kernel, (by decide +kernel : (parseMethodDescriptor yX3_clash.desc).map (fun d => d.parameters.length) = some 5)⟩ ⟨⟨Nat.le_of_ble_eq_true rfl, Nat.le_of_ble_eq_true rfl⟩, rfl, rfl⟩ rfl (Nat.le_of_ble_eq_true rfl) ⟨show _ ≤ 200 from by omega, show _ ≤ 1200 from by omega⟩ rfl (fun E hE => ?_) (fun sz' v' g' z' I' P' O' hA' hp => ?_)
      · obtain ⟨q, hq, hkq⟩ := hE
        rw [(clash_v S.s hM8 (j := j) (r := i) (f := nw + t0) (d := 1 + i) (w := nI wh) hj (by omega) (Or.inr ⟨wh, hwh, rfl⟩) (by omega) (by omega) (by omega)).1] at hkq
        subst hkq
        simp only [List.mem_cons, List.not_mem_nil, or_false, Prod.mk.injEq] at hq
        rcases hq with ⟨q, -⟩ | ⟨q, -⟩ <;> exact absurd q (by decide)
      obtain ⟨hkq, qv, qg, qz, qI, qP, qO⟩ := hp
      rw [qv, qg, qz, qI, qP, qO, Kw_self, (clash_v S.s hM8 (j := j) (r := i) (f := nw + t0) (d := 1 + i) (w := nI wh) hj (by omega) (Or.inr ⟨wh, hwh, rfl⟩) (by omega) (by omega) (by omega)).2]
      clear hkq qv qg qz qI qP qO
      refine g_iload (pc' := 641) C dL_same_639 rfl rfl ?_
      refine g_iload (pc' := 643) C dL_same_641 rfl rfl ?_
      refine g_iload (pc' := 645) C dL_same_643 rfl rfl ?_
      refine g_iload (pc' := 647) C dL_same_645 rfl rfl ?_
      refine g_iconst (v := nI 1) (pc' := 648) C dL_same_647 (by decide) rfl ?_
      refine g_iload (pc' := 650) C dL_same_648 rfl rfl ?_
      refine g_iaddN (pc' := 651) C dL_same_650 rfl ?_
      refine g_iconst (v := (-1)) (pc' := 652) C dL_same_651 (by decide) rfl ?_
      refine g_aload_n (pc' := 653) C dL_same_652 rfl rfl ?_
      refine g_aload_n (pc' := 654) C dL_same_653 rfl rfl ?_
      refine g_aload (pc' := 656) C dL_same_654 rfl rfl ?_
      refine g_callS (pc' := 659) (As := [.int (nI j), .int (nI i), .int (nI wh), .int (nI (nw + t0)), .int (nI (1 + i)), .int (-1), .ref ((Kg K).2.2 13 0), .ref ((Kg K).2.2 13 1), .ref ((Kg K).2.2 13 6)]) (S := [.int (mRe J z.2 j (nI i) (nI wh) (nI (nw + t0)) (nI (1 + i)) (-1))]) C cs_L_73 (w_clash (J := J) (nw := nw) S.s.M S.y S.pos hj (by omega) (by omega) (by omega) (by omega) (Or.inr ⟨wh, hwh, rfl⟩)) dL_same_656 ⟨rfl, by decide +kernel, by decide +kernel, (by decide +kernel : (parseMethodDescriptor yL_clash.desc).map (fun d => d.parameters.length) = some 9)⟩ ⟨⟨Nat.le_of_ble_eq_true rfl, Nat.le_of_ble_eq_true rfl⟩, rfl, rfl⟩ rfl (Nat.le_of_ble_eq_true rfl) ⟨show _ ≤ 200 from by omega, show _ ≤ 1200 from by omega⟩ rfl (fun v1 I1 P1 q => ?_)
      obtain ⟨rfl, q1, q2⟩ := q
      rw [q1, q2]
      clear q1 q2
      refine g_icmp_ne (tgt := 666) (pc' := 662) C dL_same_659 (by decide) rfl (fun c4 => absurd rfl c4) (fun c4 => ?_)
      refine g_iconst (v := nI 1) (pc' := 663) C dL_same_662 (by decide) rfl ?_
      refine g_goto (tgt := 667) C dL_same_663 (by decide) ?_
      refine g_istore (pc' := 669) C dL_same_667 rfl rfl ?_
      refine g_iinc (pc' := 672) C dL_same_669 rfl (iiN _) rfl rfl ?_
      refine g_goto (tgt := 429) C dL_same_672 (by decide) ?_
      exact G_pick [0, 1, 2, 3, 4, 5, 6, 7, 8, 9, 10] rfl (ih (i + 1) _ _ (by omega) (by omega) (by omega))
    ·
      refine g_iload (pc' := 591) C dL_same_589 rfl rfl ?_
      refine g_if_ge (tgt := 598) (pc' := 594) C dL_same_591 (by decide) rfl (fun c1 => ?_) (fun c1 => absurd (nI_pos' (by omega)) c1)
      refine g_aload (pc' := 600) C dL_same_598 rfl rfl ?_
      refine g_iload (pc' := 602) C dL_same_600 rfl rfl ?_
      refine g_iald (pc' := 603) C (k) rfl hk dL_same_602 (al13 rfl) rfl rfl rfl ?_
      rw [(S.y.u.1 k hk).2.2.1]
      refine g_bipush (v := nI 16) (pc' := 605) C dL_same_603 (by decide) rfl ?_
      refine g_iremN (r := vN (I 13) k % 16) (pc' := 606) C (by have := (S.y.u.1 k hk).2.2.2; omega) (by omega) rfl dL_same_605 rfl ?_
      refine g_icmp_ne (tgt := 666) (pc' := 609) C dL_same_606 (by decide) rfl (fun c2 => absurd e2 c2) (fun c2 => ?_)
      refine g_aload_n (pc' := 610) C dL_same_609 rfl rfl ?_
      refine g_iconst (v := 3) (pc' := 611) C dL_same_610 (by decide) rfl ?_
      refine g_iload (pc' := 613) C dL_same_611 rfl rfl ?_
      refine g_iload (pc' := 615) C dL_same_613 rfl rfl ?_
      refine x_callV (pc' := 618) (mc := 1) (ms := 6) (As := [.int 3, .int (nI wh), .int (nI (nw + t0))]) (S := []) (post := fun _ => pX (cK14 3 (nI wh) (nI (nw + t0))) (Kg K) z (some (.int (caL I P 3 (nI wh) (nI (nw + t0)) z.2 0))) I P O) C hR.k cv_L_105 (fun sz => m_X3_at hfl S.s.X sz) dL_same_615 (by first | assumption | exact rfl | exact al13 rfl | exact Nat.le_of_ble_eq_true rfl) rfl rfl ⟨rfl, by decide +kernel, by decide +kernel, (by decide +kernel : (parseMethodDescriptor yX3_at.desc).map (fun d => d.parameters.length) = some 3)⟩ ⟨⟨Nat.le_of_ble_eq_true rfl, Nat.le_of_ble_eq_true rfl⟩, rfl, rfl⟩ rfl (Nat.le_of_ble_eq_true rfl) ⟨show _ ≤ 200 from by omega, show _ ≤ 1200 from by omega⟩ rfl (fun E hE => ?_) (fun sz' v' g' z' I' P' O' hA' hp => ?_)
      · obtain ⟨q, hq, hkq⟩ := hE
        rw [(at_v S.s hwh (t := nw + t0) (by omega)).1] at hkq
        subst hkq
        simp only [List.mem_cons, List.not_mem_nil, or_false, Prod.mk.injEq] at hq
        rcases hq with ⟨q, -⟩ | ⟨q, -⟩ <;> exact absurd q (by decide)
      obtain ⟨hkq, qv, qg, qz, qI, qP, qO⟩ := hp
      rw [qv, qg, qz, qI, qP, qO, Kw_self, (at_v S.s hwh (t := nw + t0) (by omega)).2]
      clear hkq qv qg qz qI qP qO
      refine g_iload (pc' := 620) C dL_same_618 rfl rfl ?_
      refine g_icmp_ne (tgt := 666) (pc' := 623) C dL_same_620 (by decide) rfl (fun c3 => absurd rfl c3) (fun c3 => ?_)
      refine g_aload_n (pc' := 624) C dL_same_623 rfl rfl ?_
      refine g_iload (pc' := 626) C dL_same_624 rfl rfl ?_
      refine g_iload (pc' := 628) C dL_same_626 rfl rfl ?_
      refine g_iload (pc' := 630) C dL_same_628 rfl rfl ?_
      refine g_iload (pc' := 632) C dL_same_630 rfl rfl ?_
      refine g_iconst (v := nI 1) (pc' := 633) C dL_same_632 (by decide) rfl ?_
      refine g_iload (pc' := 635) C dL_same_633 rfl rfl ?_
      refine g_iaddN (pc' := 636) C dL_same_635 rfl ?_
      refine x_callV (pc' := 639) (mc := 1) (ms := 6) (As := [.int (nI j), .int (nI i), .int (nI wh), .int (nI (nw + t0)), .int (nI (1 + i))]) (S := []) (post := fun _ => pX (cK13 z.1 (nI j) (nI i) (nI wh) (nI (nw + t0)) (nI (1 + i))) (Kg K) z (some (.int (crL I P none (nI j).toNatClampNeg (nI i) (nI wh) (nI (nw + t0)) (nI (1 + i)) z.2 0 0))) I P O) C hR.k cv_L_109 (fun sz => m_X3_clash hfl S.s.X sz) dL_same_636 (by first | assumption | exact rfl | exact al13 rfl | exact Nat.le_of_ble_eq_true rfl) rfl rfl ⟨rfl, by decide +kernel, by decide +kernel, (by decide +kernel : (parseMethodDescriptor yX3_clash.desc).map (fun d => d.parameters.length) = some 5)⟩ ⟨⟨Nat.le_of_ble_eq_true rfl, Nat.le_of_ble_eq_true rfl⟩, rfl, rfl⟩ rfl (Nat.le_of_ble_eq_true rfl) ⟨show _ ≤ 200 from by omega, show _ ≤ 1200 from by omega⟩ rfl (fun E hE => ?_) (fun sz' v' g' z' I' P' O' hA' hp => ?_)
      · obtain ⟨q, hq, hkq⟩ := hE
        rw [(clash_v S.s hM8 (j := j) (r := i) (f := nw + t0) (d := 1 + i) (w := nI wh) hj (by omega) (Or.inr ⟨wh, hwh, rfl⟩) (by omega) (by omega) (by omega)).1] at hkq
        subst hkq
        simp only [List.mem_cons, List.not_mem_nil, or_false, Prod.mk.injEq] at hq
        rcases hq with ⟨q, -⟩ | ⟨q, -⟩ <;> exact absurd q (by decide)
      obtain ⟨hkq, qv, qg, qz, qI, qP, qO⟩ := hp
      rw [qv, qg, qz, qI, qP, qO, Kw_self, (clash_v S.s hM8 (j := j) (r := i) (f := nw + t0) (d := 1 + i) (w := nI wh) hj (by omega) (Or.inr ⟨wh, hwh, rfl⟩) (by omega) (by omega) (by omega)).2]
      clear hkq qv qg qz qI qP qO
      refine g_iload (pc' := 641) C dL_same_639 rfl rfl ?_
      refine g_iload (pc' := 643) C dL_same_641 rfl rfl ?_
      refine g_iload (pc' := 645) C dL_same_643 rfl rfl ?_
      refine g_iload (pc' := 647) C dL_same_645 rfl rfl ?_
      refine g_iconst (v := nI 1) (pc' := 648) C dL_same_647 (by decide) rfl ?_
      refine g_iload (pc' := 650) C dL_same_648 rfl rfl ?_
      refine g_iaddN (pc' := 651) C dL_same_650 rfl ?_
      refine g_iconst (v := (-1)) (pc' := 652) C dL_same_651 (by decide) rfl ?_
      refine g_aload_n (pc' := 653) C dL_same_652 rfl rfl ?_
      refine g_aload_n (pc' := 654) C dL_same_653 rfl rfl ?_
      refine g_aload (pc' := 656) C dL_same_654 rfl rfl ?_
      refine g_callS (pc' := 659) (As := [.int (nI j), .int (nI i), .int (nI wh), .int (nI (nw + t0)), .int (nI (1 + i)), .int (-1), .ref ((Kg K).2.2 13 0), .ref ((Kg K).2.2 13 1), .ref ((Kg K).2.2 13 6)]) (S := [.int (mRe J z.2 j (nI i) (nI wh) (nI (nw + t0)) (nI (1 + i)) (-1))]) C cs_L_73 (w_clash (J := J) (nw := nw) S.s.M S.y S.pos hj (by omega) (by omega) (by omega) (by omega) (Or.inr ⟨wh, hwh, rfl⟩)) dL_same_656 ⟨rfl, by decide +kernel, by decide +kernel, (by decide +kernel : (parseMethodDescriptor yL_clash.desc).map (fun d => d.parameters.length) = some 9)⟩ ⟨⟨Nat.le_of_ble_eq_true rfl, Nat.le_of_ble_eq_true rfl⟩, rfl, rfl⟩ rfl (Nat.le_of_ble_eq_true rfl) ⟨show _ ≤ 200 from by omega, show _ ≤ 1200 from by omega⟩ rfl (fun v1 I1 P1 q => ?_)
      obtain ⟨rfl, q1, q2⟩ := q
      rw [q1, q2]
      clear q1 q2
      refine g_icmp_ne (tgt := 666) (pc' := 662) C dL_same_659 (by decide) rfl (fun c4 => absurd rfl c4) (fun c4 => ?_)
      refine g_iconst (v := nI 1) (pc' := 663) C dL_same_662 (by decide) rfl ?_
      refine g_goto (tgt := 667) C dL_same_663 (by decide) ?_
      refine g_istore (pc' := 669) C dL_same_667 rfl rfl ?_
      refine g_iinc (pc' := 672) C dL_same_669 rfl (iiN _) rfl rfl ?_
      refine g_goto (tgt := 429) C dL_same_672 (by decide) ?_
      exact G_pick [0, 1, 2, 3, 4, 5, 6, 7, 8, 9, 10] rfl (ih (i + 1) _ _ (by omega) (by omega) (by omega))
set_option maxRecDepth 20000 in
theorem l_same2 {K : wK} {z : wZ} {I : wI} {P : wP} {O : wO} {nw : Nat} {J : wI} {sz : Nat} (hfl : (Kl K).stackTraces = false) (C : Cx K cL_same RL 16 (some .boolean) { frames := 7, cells := 200, slots := 1200, locals := 150 } z) (hR : Rq K (Kg K) z sz I P O 200 1200 (sP (Kg K) z I P O) (fun _ => False)) (S : Stt z nw I P J) (hz : 0 < z.1) (hn9 : nw ≤ 900) {v : Int32} : ∀ (n h c0 n0 : Nat), h + n = z.2 → c0 ≤ 40 + 7 * h → n0 ≤ 240 + 42 * h → G K z I P O c0 n0 224 [(0, .ref ((Kg K).2.2 0 0)), (1, .int v), (2, .ref ((Kg K).2.2 13 0)), (3, .ref ((Kg K).2.2 13 1)), (4, .ref ((Kg K).2.2 13 2)), (5, .ref ((Kg K).2.2 13 3)), (6, .ref ((Kg K).2.2 13 4)), (7, .ref ((Kg K).2.2 13 6)), (8, .int (nI 1)), (9, .int (blL I z.1 0 0)), (10, .int (nI h))] [] := by
  have hM8 := S.y.M8
  have hN16 := S.y.N16
  have X := S.s.M
  intro n
  induction n with
  | zero =>
    intro h c0 n0 hi hc hn
    refine g_iload (pc' := 226) C dL_same_224 rfl rfl ?_
    refine g_aload (pc' := 228) C dL_same_226 rfl rfl ?_
    refine g_iconst (v := nI 1) (pc' := 229) C dL_same_228 (by decide) rfl ?_
    refine g_iald (pc' := 230) C (1) rfl (by show 1 < 3; omega) dL_same_229 (al13 rfl) rfl rfl rfl ?_
    rw [S.y.q1]
    refine g_icmp_geN (tgt := 426) (pc' := 233) C (by omega) (by omega) dL_same_230 (by decide) rfl (fun c1 => ?_) (fun c1 => absurd c1 (by omega))
    refine g_iconst (v := nI 0) (pc' := 427) C dL_same_426 (by decide) rfl ?_
    refine g_istore (pc' := 429) C dL_same_427 rfl rfl ?_
    exact G_pick [0, 1, 2, 3, 4, 5, 6, 7, 8, 9, 10] rfl (l_same3 hfl C hR S hz hn9 4 0 c0 n0 rfl (by omega) (by omega))
  | succ n ih =>
    intro h c0 n0 hi hc hn
    have hh : h < z.2 := by omega
    have hm12 : mm J h < 12 := X.mt2 hh
    have hr4 := S.y.rm4 hh
    have hs4 := S.y.sp4 hh
    have hlt := eA_lt hm12 hr4 hs4
    have hH4 := X.hr4 hh
    have hnt3 := S.y.nt3 hh
    have hHlt := eH_lt hH4 hnt3
    have e19 := X.hr hh
    obtain ⟨-, -, r18, -, e16, -, -, -, e20, -⟩ := S.y.a.2 h hh
    refine g_iload (pc' := 226) C dL_same_224 rfl rfl ?_
    refine g_aload (pc' := 228) C dL_same_226 rfl rfl ?_
    refine g_iconst (v := nI 1) (pc' := 229) C dL_same_228 (by decide) rfl ?_
    refine g_iald (pc' := 230) C (1) rfl (by show 1 < 3; omega) dL_same_229 (al13 rfl) rfl rfl rfl ?_
    rw [S.y.q1]
    refine g_icmp_geN (tgt := 426) (pc' := 233) C (by omega) (by omega) dL_same_230 (by decide) rfl (fun c1 => absurd c1 (by omega)) (fun c1 => ?_)
    refine g_iload (pc' := 235) C dL_same_233 rfl rfl ?_
    refine g_if_eq (tgt := 426) (pc' := 238) C dL_same_235 (by decide) rfl (fun c2 => absurd c2 (by decide)) (fun c2 => ?_)
    refine g_aload_n (pc' := 239) C dL_same_238 rfl rfl ?_
    refine g_iconst (v := nI 4) (pc' := 240) C dL_same_239 (by decide) rfl ?_
    refine g_iload (pc' := 242) C dL_same_240 rfl rfl ?_
    refine g_imulN (pc' := 243) C dL_same_242 rfl ?_
    refine g_iconst (v := nI 3) (pc' := 244) C dL_same_243 (by decide) rfl ?_
    refine g_iaddN (pc' := 245) C dL_same_244 rfl ?_
    refine g_iald (pc' := 246) C (4 * h + 3) rfl (by show _ < 64; omega) dL_same_245 (al13 rfl) rfl rfl rfl ?_
    rw [(S.y.rH hh)]
    refine g_bipush (v := nI 16) (pc' := 248) C dL_same_246 (by decide) rfl ?_
    refine g_idivN (r := ntN J h) (pc' := 249) C (by omega) (by omega) (eH_n hH4) dL_same_248 rfl ?_
    refine g_istore (pc' := 251) C dL_same_249 rfl rfl ?_
    refine g_aload_n (pc' := 252) C dL_same_251 rfl rfl ?_
    refine g_iload (pc' := 254) C dL_same_252 rfl rfl ?_
    refine g_iconst (v := nI 0) (pc' := 255) C dL_same_254 (by decide) rfl ?_
    refine x_callV (pc' := 258) (mc := 1) (ms := 6) (As := [.int (nI h), .int (nI 0)]) (S := []) (post := fun _ => pX (cK15 z.2 (nI h) (nI 0)) (Kg K) z (some (.int (cV16 I P (nI h).toNatClampNeg (nI 0)))) I P O) C hR.k cv_L_99 (fun sz => m_X3_hearing hfl S.s.X sz) dL_same_255 (by first | assumption | exact rfl | exact al13 rfl | exact Nat.le_of_ble_eq_true rfl) rfl rfl ⟨rfl, by decide +kernel, by decide +kernel, (by decide +kernel : (parseMethodDescriptor yX3_hearing.desc).map (fun d => d.parameters.length) = some 2)⟩ ⟨⟨Nat.le_of_ble_eq_true rfl, Nat.le_of_ble_eq_true rfl⟩, rfl, rfl⟩ rfl (Nat.le_of_ble_eq_true rfl) ⟨show _ ≤ 200 from by omega, show _ ≤ 1200 from by omega⟩ rfl (fun E hE => ?_) (fun sz' v' g' z' I' P' O' hA' hp => ?_)
    · obtain ⟨q, hq, hkq⟩ := hE
      rw [(hearing_v S.s hN16 hh (y := 0) (by omega)).1] at hkq
      subst hkq
      simp only [List.mem_cons, List.not_mem_nil, or_false, Prod.mk.injEq] at hq
      rcases hq with ⟨q, -⟩ | ⟨q, -⟩ <;> exact absurd q (by decide)
    obtain ⟨hkq, qv, qg, qz, qI, qP, qO⟩ := hp
    rw [qv, qg, qz, qI, qP, qO, Kw_self, (hearing_v S.s hN16 hh (y := 0) (by omega)).2, mV16_0]
    clear hkq qv qg qz qI qP qO
    refine g_aload_n (pc' := 259) C dL_same_258 rfl rfl ?_
    refine g_iconst (v := nI 4) (pc' := 260) C dL_same_259 (by decide) rfl ?_
    refine g_iload (pc' := 262) C dL_same_260 rfl rfl ?_
    refine g_imulN (pc' := 263) C dL_same_262 rfl ?_
    refine g_iald (pc' := 264) C (4 * h) rfl (by show _ < 64; omega) dL_same_263 (al13 rfl) rfl rfl rfl ?_
    rw [(S.y.rS hh)]
    refine g_icmp_ne (tgt := 417) (pc' := 267) C dL_same_264 (by decide) rfl (fun c3 => absurd rfl c3) (fun c3 => ?_)
    refine g_aload_n (pc' := 268) C dL_same_267 rfl rfl ?_
    refine g_iload (pc' := 270) C dL_same_268 rfl rfl ?_
    refine g_iconst (v := nI 2) (pc' := 271) C dL_same_270 (by decide) rfl ?_
    refine x_callV (pc' := 274) (mc := 1) (ms := 6) (As := [.int (nI h), .int (nI 2)]) (S := []) (post := fun _ => pX (cK15 z.2 (nI h) (nI 2)) (Kg K) z (some (.int (cV16 I P (nI h).toNatClampNeg (nI 2)))) I P O) C hR.k cv_L_99 (fun sz => m_X3_hearing hfl S.s.X sz) dL_same_271 (by first | assumption | exact rfl | exact al13 rfl | exact Nat.le_of_ble_eq_true rfl) rfl rfl ⟨rfl, by decide +kernel, by decide +kernel, (by decide +kernel : (parseMethodDescriptor yX3_hearing.desc).map (fun d => d.parameters.length) = some 2)⟩ ⟨⟨Nat.le_of_ble_eq_true rfl, Nat.le_of_ble_eq_true rfl⟩, rfl, rfl⟩ rfl (Nat.le_of_ble_eq_true rfl) ⟨show _ ≤ 200 from by omega, show _ ≤ 1200 from by omega⟩ rfl (fun E hE => ?_) (fun sz' v' g' z' I' P' O' hA' hp => ?_)
    · obtain ⟨q, hq, hkq⟩ := hE
      rw [(hearing_v S.s hN16 hh (y := 2) (by omega)).1] at hkq
      subst hkq
      simp only [List.mem_cons, List.not_mem_nil, or_false, Prod.mk.injEq] at hq
      rcases hq with ⟨q, -⟩ | ⟨q, -⟩ <;> exact absurd q (by decide)
    obtain ⟨hkq, qv, qg, qz, qI, qP, qO⟩ := hp
    rw [qv, qg, qz, qI, qP, qO, Kw_self, (hearing_v S.s hN16 hh (y := 2) (by omega)).2, mV16_2, e16]
    clear hkq qv qg qz qI qP qO
    refine g_aload_n (pc' := 275) C dL_same_274 rfl rfl ?_
    refine g_iconst (v := nI 4) (pc' := 276) C dL_same_275 (by decide) rfl ?_
    refine g_iload (pc' := 278) C dL_same_276 rfl rfl ?_
    refine g_imulN (pc' := 279) C dL_same_278 rfl ?_
    refine g_iconst (v := nI 1) (pc' := 280) C dL_same_279 (by decide) rfl ?_
    refine g_iaddN (pc' := 281) C dL_same_280 rfl ?_
    refine g_iald (pc' := 282) C (4 * h + 1) rfl (by show _ < 64; omega) dL_same_281 (al13 rfl) rfl rfl rfl ?_
    rw [(S.y.rA hh)]
    refine g_bipush (v := nI 16) (pc' := 284) C dL_same_282 (by decide) rfl ?_
    refine g_idivN (r := eA J h / 16) (pc' := 285) C (by omega) (by omega) rfl dL_same_284 rfl ?_
    refine g_iconst (v := nI 4) (pc' := 286) C dL_same_285 (by decide) rfl ?_
    refine g_iremN (r := rmN J h) (pc' := 287) C (by omega) (by omega) (eA_r hm12 hr4) dL_same_286 rfl ?_
    refine g_icmp_neN (tgt := 417) (pc' := 290) C (by omega) (by omega) dL_same_287 (by decide) rfl (fun c4 => absurd rfl c4) (fun c4 => ?_)
    refine g_aload_n (pc' := 291) C dL_same_290 rfl rfl ?_
    refine g_iload (pc' := 293) C dL_same_291 rfl rfl ?_
    refine g_iconst (v := nI 3) (pc' := 294) C dL_same_293 (by decide) rfl ?_
    refine x_callV (pc' := 297) (mc := 1) (ms := 6) (As := [.int (nI h), .int (nI 3)]) (S := []) (post := fun _ => pX (cK15 z.2 (nI h) (nI 3)) (Kg K) z (some (.int (cV16 I P (nI h).toNatClampNeg (nI 3)))) I P O) C hR.k cv_L_99 (fun sz => m_X3_hearing hfl S.s.X sz) dL_same_294 (by first | assumption | exact rfl | exact al13 rfl | exact Nat.le_of_ble_eq_true rfl) rfl rfl ⟨rfl, by decide +kernel, by decide +kernel, (by decide +kernel : (parseMethodDescriptor yX3_hearing.desc).map (fun d => d.parameters.length) = some 2)⟩ ⟨⟨Nat.le_of_ble_eq_true rfl, Nat.le_of_ble_eq_true rfl⟩, rfl, rfl⟩ rfl (Nat.le_of_ble_eq_true rfl) ⟨show _ ≤ 200 from by omega, show _ ≤ 1200 from by omega⟩ rfl (fun E hE => ?_) (fun sz' v' g' z' I' P' O' hA' hp => ?_)
    · obtain ⟨q, hq, hkq⟩ := hE
      rw [(hearing_v S.s hN16 hh (y := 3) (by omega)).1] at hkq
      subst hkq
      simp only [List.mem_cons, List.not_mem_nil, or_false, Prod.mk.injEq] at hq
      rcases hq with ⟨q, -⟩ | ⟨q, -⟩ <;> exact absurd q (by decide)
    obtain ⟨hkq, qv, qg, qz, qI, qP, qO⟩ := hp
    rw [qv, qg, qz, qI, qP, qO, Kw_self, (hearing_v S.s hN16 hh (y := 3) (by omega)).2, mV16_3]
    clear hkq qv qg qz qI qP qO
    refine g_iload (pc' := 299) C dL_same_297 rfl rfl ?_
    refine g_aload_n (pc' := 300) C dL_same_299 rfl rfl ?_
    refine g_callS (pc' := 303) (As := [.int (nI h), .ref ((Kg K).2.2 13 1)]) (S := [.int (J 13 17 h)]) C cs_L_47 (w_speaker (sp := (J 13 17 h)) (S.y.rA hh) (by omega) (by omega) (by rw [eA_s hm12 hr4, S.y.spv hh])) dL_same_300 ⟨rfl, by decide +kernel, by decide +kernel, (by decide +kernel : (parseMethodDescriptor yL_speaker.desc).map (fun d => d.parameters.length) = some 2)⟩ ⟨⟨Nat.le_of_ble_eq_true rfl, Nat.le_of_ble_eq_true rfl⟩, rfl, rfl⟩ rfl (Nat.le_of_ble_eq_true rfl) ⟨show _ ≤ 200 from by omega, show _ ≤ 1200 from by omega⟩ rfl (fun v1 I1 P1 q => ?_)
    obtain ⟨rfl, q1, q2⟩ := q
    rw [q1, q2]
    refine g_icmp_ne (tgt := 417) (pc' := 306) C dL_same_303 (by decide) rfl (fun c5 => absurd rfl c5) (fun c5 => ?_)
    refine g_aload_n (pc' := 307) C dL_same_306 rfl rfl ?_
    refine g_iload (pc' := 309) C dL_same_307 rfl rfl ?_
    refine g_iconst (v := nI 4) (pc' := 310) C dL_same_309 (by decide) rfl ?_
    refine x_callV (pc' := 313) (mc := 1) (ms := 6) (As := [.int (nI h), .int (nI 4)]) (S := []) (post := fun _ => pX (cK15 z.2 (nI h) (nI 4)) (Kg K) z (some (.int (cV16 I P (nI h).toNatClampNeg (nI 4)))) I P O) C hR.k cv_L_99 (fun sz => m_X3_hearing hfl S.s.X sz) dL_same_310 (by first | assumption | exact rfl | exact al13 rfl | exact Nat.le_of_ble_eq_true rfl) rfl rfl ⟨rfl, by decide +kernel, by decide +kernel, (by decide +kernel : (parseMethodDescriptor yX3_hearing.desc).map (fun d => d.parameters.length) = some 2)⟩ ⟨⟨Nat.le_of_ble_eq_true rfl, Nat.le_of_ble_eq_true rfl⟩, rfl, rfl⟩ rfl (Nat.le_of_ble_eq_true rfl) ⟨show _ ≤ 200 from by omega, show _ ≤ 1200 from by omega⟩ rfl (fun E hE => ?_) (fun sz' v' g' z' I' P' O' hA' hp => ?_)
    · obtain ⟨q, hq, hkq⟩ := hE
      rw [(hearing_v S.s hN16 hh (y := 4) (by omega)).1] at hkq
      subst hkq
      simp only [List.mem_cons, List.not_mem_nil, or_false, Prod.mk.injEq] at hq
      rcases hq with ⟨q, -⟩ | ⟨q, -⟩ <;> exact absurd q (by decide)
    obtain ⟨hkq, qv, qg, qz, qI, qP, qO⟩ := hp
    rw [qv, qg, qz, qI, qP, qO, Kw_self, (hearing_v S.s hN16 hh (y := 4) (by omega)).2, mV16_4]
    clear hkq qv qg qz qI qP qO
    refine g_aload_n (pc' := 314) C dL_same_313 rfl rfl ?_
    refine g_iconst (v := nI 4) (pc' := 315) C dL_same_314 (by decide) rfl ?_
    refine g_iload (pc' := 317) C dL_same_315 rfl rfl ?_
    refine g_imulN (pc' := 318) C dL_same_317 rfl ?_
    refine g_iconst (v := nI 2) (pc' := 319) C dL_same_318 (by decide) rfl ?_
    refine g_iaddN (pc' := 320) C dL_same_319 rfl ?_
    refine g_iald (pc' := 321) C (4 * h + 2) rfl (by show _ < 64; omega) dL_same_320 (al13 rfl) rfl rfl rfl ?_
    rw [r18]
    refine g_icmp_ne (tgt := 417) (pc' := 324) C dL_same_321 (by decide) rfl (fun c6 => absurd rfl c6) (fun c6 => ?_)
    refine g_aload_n (pc' := 325) C dL_same_324 rfl rfl ?_
    refine g_iload (pc' := 327) C dL_same_325 rfl rfl ?_
    refine g_iconst (v := nI 5) (pc' := 328) C dL_same_327 (by decide) rfl ?_
    refine x_callV (pc' := 331) (mc := 1) (ms := 6) (As := [.int (nI h), .int (nI 5)]) (S := []) (post := fun _ => pX (cK15 z.2 (nI h) (nI 5)) (Kg K) z (some (.int (cV16 I P (nI h).toNatClampNeg (nI 5)))) I P O) C hR.k cv_L_99 (fun sz => m_X3_hearing hfl S.s.X sz) dL_same_328 (by first | assumption | exact rfl | exact al13 rfl | exact Nat.le_of_ble_eq_true rfl) rfl rfl ⟨rfl, by decide +kernel, by decide +kernel, (by decide +kernel : (parseMethodDescriptor yX3_hearing.desc).map (fun d => d.parameters.length) = some 2)⟩ ⟨⟨Nat.le_of_ble_eq_true rfl, Nat.le_of_ble_eq_true rfl⟩, rfl, rfl⟩ rfl (Nat.le_of_ble_eq_true rfl) ⟨show _ ≤ 200 from by omega, show _ ≤ 1200 from by omega⟩ rfl (fun E hE => ?_) (fun sz' v' g' z' I' P' O' hA' hp => ?_)
    · obtain ⟨q, hq, hkq⟩ := hE
      rw [(hearing_v S.s hN16 hh (y := 5) (by omega)).1] at hkq
      subst hkq
      simp only [List.mem_cons, List.not_mem_nil, or_false, Prod.mk.injEq] at hq
      rcases hq with ⟨q, -⟩ | ⟨q, -⟩ <;> exact absurd q (by decide)
    obtain ⟨hkq, qv, qg, qz, qI, qP, qO⟩ := hp
    rw [qv, qg, qz, qI, qP, qO, Kw_self, (hearing_v S.s hN16 hh (y := 5) (by omega)).2, mV16_5, e19]
    clear hkq qv qg qz qI qP qO
    refine g_aload_n (pc' := 332) C dL_same_331 rfl rfl ?_
    refine g_iconst (v := nI 4) (pc' := 333) C dL_same_332 (by decide) rfl ?_
    refine g_iload (pc' := 335) C dL_same_333 rfl rfl ?_
    refine g_imulN (pc' := 336) C dL_same_335 rfl ?_
    refine g_iconst (v := nI 3) (pc' := 337) C dL_same_336 (by decide) rfl ?_
    refine g_iaddN (pc' := 338) C dL_same_337 rfl ?_
    refine g_iald (pc' := 339) C (4 * h + 3) rfl (by show _ < 64; omega) dL_same_338 (al13 rfl) rfl rfl rfl ?_
    rw [(S.y.rH hh)]
    refine g_bipush (v := nI 16) (pc' := 341) C dL_same_339 (by decide) rfl ?_
    refine g_iremN (r := mh J h) (pc' := 342) C (by omega) (by omega) (eH_h hH4) dL_same_341 rfl ?_
    refine g_icmp_neN (tgt := 417) (pc' := 345) C (by omega) (by omega) dL_same_342 (by decide) rfl (fun c7 => absurd rfl c7) (fun c7 => ?_)
    refine g_aload_n (pc' := 346) C dL_same_345 rfl rfl ?_
    refine g_iload (pc' := 348) C dL_same_346 rfl rfl ?_
    refine g_bipush (v := nI 6) (pc' := 350) C dL_same_348 (by decide) rfl ?_
    refine x_callV (pc' := 353) (mc := 1) (ms := 6) (As := [.int (nI h), .int (nI 6)]) (S := []) (post := fun _ => pX (cK15 z.2 (nI h) (nI 6)) (Kg K) z (some (.int (cV16 I P (nI h).toNatClampNeg (nI 6)))) I P O) C hR.k cv_L_99 (fun sz => m_X3_hearing hfl S.s.X sz) dL_same_350 (by first | assumption | exact rfl | exact al13 rfl | exact Nat.le_of_ble_eq_true rfl) rfl rfl ⟨rfl, by decide +kernel, by decide +kernel, (by decide +kernel : (parseMethodDescriptor yX3_hearing.desc).map (fun d => d.parameters.length) = some 2)⟩ ⟨⟨Nat.le_of_ble_eq_true rfl, Nat.le_of_ble_eq_true rfl⟩, rfl, rfl⟩ rfl (Nat.le_of_ble_eq_true rfl) ⟨show _ ≤ 200 from by omega, show _ ≤ 1200 from by omega⟩ rfl (fun E hE => ?_) (fun sz' v' g' z' I' P' O' hA' hp => ?_)
    · obtain ⟨q, hq, hkq⟩ := hE
      rw [(hearing_v S.s hN16 hh (y := 6) (by omega)).1] at hkq
      subst hkq
      simp only [List.mem_cons, List.not_mem_nil, or_false, Prod.mk.injEq] at hq
      rcases hq with ⟨q, -⟩ | ⟨q, -⟩ <;> exact absurd q (by decide)
    obtain ⟨hkq, qv, qg, qz, qI, qP, qO⟩ := hp
    rw [qv, qg, qz, qI, qP, qO, Kw_self, (hearing_v S.s hN16 hh (y := 6) (by omega)).2, mV16_6, e20, nt_sum hnt3]
    clear hkq qv qg qz qI qP qO
    refine g_iload (pc' := 355) C dL_same_353 rfl rfl ?_
    refine g_iconst (v := nI 2) (pc' := 356) C dL_same_355 (by decide) rfl ?_
    refine g_iremN (r := ntN J h % 2) (pc' := 357) C (by omega) (by omega) rfl dL_same_356 rfl ?_
    refine g_iload (pc' := 359) C dL_same_357 rfl rfl ?_
    refine g_iconst (v := nI 2) (pc' := 360) C dL_same_359 (by decide) rfl ?_
    refine g_idivN (r := ntN J h / 2) (pc' := 361) C (by omega) (by omega) rfl dL_same_360 rfl ?_
    refine g_iaddN (pc' := 362) C dL_same_361 rfl ?_
    refine g_icmp_neN (tgt := 417) (pc' := 365) C (by omega) (by omega) dL_same_362 (by decide) rfl (fun c8 => absurd rfl c8) (fun c8 => ?_)
    refine g_aload_n (pc' := 366) C dL_same_365 rfl rfl ?_
    refine g_iload (pc' := 368) C dL_same_366 rfl rfl ?_
    refine g_bipush (v := nI 7) (pc' := 370) C dL_same_368 (by decide) rfl ?_
    refine x_callV (pc' := 373) (mc := 1) (ms := 6) (As := [.int (nI h), .int (nI 7)]) (S := []) (post := fun _ => pX (cK15 z.2 (nI h) (nI 7)) (Kg K) z (some (.int (cV16 I P (nI h).toNatClampNeg (nI 7)))) I P O) C hR.k cv_L_99 (fun sz => m_X3_hearing hfl S.s.X sz) dL_same_370 (by first | assumption | exact rfl | exact al13 rfl | exact Nat.le_of_ble_eq_true rfl) rfl rfl ⟨rfl, by decide +kernel, by decide +kernel, (by decide +kernel : (parseMethodDescriptor yX3_hearing.desc).map (fun d => d.parameters.length) = some 2)⟩ ⟨⟨Nat.le_of_ble_eq_true rfl, Nat.le_of_ble_eq_true rfl⟩, rfl, rfl⟩ rfl (Nat.le_of_ble_eq_true rfl) ⟨show _ ≤ 200 from by omega, show _ ≤ 1200 from by omega⟩ rfl (fun E hE => ?_) (fun sz' v' g' z' I' P' O' hA' hp => ?_)
    · obtain ⟨q, hq, hkq⟩ := hE
      rw [(hearing_v S.s hN16 hh (y := 7) (by omega)).1] at hkq
      subst hkq
      simp only [List.mem_cons, List.not_mem_nil, or_false, Prod.mk.injEq] at hq
      rcases hq with ⟨q, -⟩ | ⟨q, -⟩ <;> exact absurd q (by decide)
    obtain ⟨hkq, qv, qg, qz, qI, qP, qO⟩ := hp
    rw [qv, qg, qz, qI, qP, qO, Kw_self, (hearing_v S.s hN16 hh (y := 7) (by omega)).2, mV16_7]
    clear hkq qv qg qz qI qP qO
    refine g_aload (pc' := 375) C dL_same_373 rfl rfl ?_
    refine g_iconst (v := nI 4) (pc' := 376) C dL_same_375 (by decide) rfl ?_
    refine g_iload (pc' := 378) C dL_same_376 rfl rfl ?_
    refine g_imulN (pc' := 379) C dL_same_378 rfl ?_
    refine g_iald (pc' := 380) C (4 * h) rfl (by show _ < 64; omega) dL_same_379 (al13 rfl) rfl rfl rfl ?_
    rw [(S.y.c (4 * h) (by omega)).1]
    refine g_aload (pc' := 382) C dL_same_380 rfl rfl ?_
    refine g_iconst (v := nI 4) (pc' := 383) C dL_same_382 (by decide) rfl ?_
    refine g_iload (pc' := 385) C dL_same_383 rfl rfl ?_
    refine g_imulN (pc' := 386) C dL_same_385 rfl ?_
    refine g_iconst (v := nI 1) (pc' := 387) C dL_same_386 (by decide) rfl ?_
    refine g_iaddN (pc' := 388) C dL_same_387 rfl ?_
    refine g_iald (pc' := 389) C (4 * h + 1) rfl (by show _ < 64; omega) dL_same_388 (al13 rfl) rfl rfl rfl ?_
    rw [(S.y.c (4 * h + 1) (by omega)).1]
    refine g_iadd (pc' := 390) C dL_same_389 rfl ?_
    refine g_aload (pc' := 392) C dL_same_390 rfl rfl ?_
    refine g_iconst (v := nI 4) (pc' := 393) C dL_same_392 (by decide) rfl ?_
    refine g_iload (pc' := 395) C dL_same_393 rfl rfl ?_
    refine g_imulN (pc' := 396) C dL_same_395 rfl ?_
    refine g_iconst (v := nI 2) (pc' := 397) C dL_same_396 (by decide) rfl ?_
    refine g_iaddN (pc' := 398) C dL_same_397 rfl ?_
    refine g_iald (pc' := 399) C (4 * h + 2) rfl (by show _ < 64; omega) dL_same_398 (al13 rfl) rfl rfl rfl ?_
    rw [(S.y.c (4 * h + 2) (by omega)).1]
    refine g_iadd (pc' := 400) C dL_same_399 rfl ?_
    refine g_aload (pc' := 402) C dL_same_400 rfl rfl ?_
    refine g_iconst (v := nI 4) (pc' := 403) C dL_same_402 (by decide) rfl ?_
    refine g_iload (pc' := 405) C dL_same_403 rfl rfl ?_
    refine g_imulN (pc' := 406) C dL_same_405 rfl ?_
    refine g_iconst (v := nI 3) (pc' := 407) C dL_same_406 (by decide) rfl ?_
    refine g_iaddN (pc' := 408) C dL_same_407 rfl ?_
    refine g_iald (pc' := 409) C (4 * h + 3) rfl (by show _ < 64; omega) dL_same_408 (al13 rfl) rfl rfl rfl ?_
    rw [(S.y.c (4 * h + 3) (by omega)).1]
    refine g_iadd (pc' := 410) C dL_same_409 rfl ?_
    refine g_icmp_ne (tgt := 417) (pc' := 413) C dL_same_410 (by decide) rfl (fun c9 => absurd rfl c9) (fun c9 => ?_)
    refine g_iconst (v := nI 1) (pc' := 414) C dL_same_413 (by decide) rfl ?_
    refine g_goto (tgt := 418) C dL_same_414 (by decide) ?_
    refine g_istore (pc' := 420) C dL_same_418 rfl rfl ?_
    refine g_iinc (pc' := 423) C dL_same_420 rfl (iiN _) rfl rfl ?_
    refine g_goto (tgt := 224) C dL_same_423 (by decide) ?_
    exact G_pick [0, 1, 2, 3, 4, 5, 6, 7, 8, 9, 10] rfl (ih (h + 1) _ _ (by omega) (by omega) (by omega))
set_option maxRecDepth 20000 in
theorem l_same1 {K : wK} {z : wZ} {I : wI} {P : wP} {O : wO} {nw : Nat} {J : wI} {sz : Nat} (hfl : (Kl K).stackTraces = false) (C : Cx K cL_same RL 16 (some .boolean) { frames := 7, cells := 200, slots := 1200, locals := 150 } z) (hR : Rq K (Kg K) z sz I P O 200 1200 (sP (Kg K) z I P O) (fun _ => False)) (S : Stt z nw I P J) (hz : 0 < z.1) (hn9 : nw ≤ 900) {v : Int32} : ∀ (n k c0 n0 : Nat) (x : Int32), k + n = z.1 → blL I n k x = blL I z.1 0 0 → c0 ≤ 5 * k → n0 ≤ 30 * k → G K z I P O c0 n0 24 [(0, .ref ((Kg K).2.2 0 0)), (1, .int v), (2, .ref ((Kg K).2.2 13 0)), (3, .ref ((Kg K).2.2 13 1)), (4, .ref ((Kg K).2.2 13 2)), (5, .ref ((Kg K).2.2 13 3)), (6, .ref ((Kg K).2.2 13 4)), (7, .ref ((Kg K).2.2 13 6)), (8, .int (nI 1)), (9, .int x), (10, .int (nI k))] [] := by
  have hM8 := S.y.M8
  have hN16 := S.y.N16
  have X := S.s.M
  intro n
  induction n with
  | zero =>
    intro k c0 n0 x hi hx hc hn
    have ex : x = blL I z.1 0 0 := hx
    subst ex
    refine g_iload (pc' := 26) C dL_same_24 rfl rfl ?_
    refine g_aload (pc' := 28) C dL_same_26 rfl rfl ?_
    refine g_iconst (v := nI 0) (pc' := 29) C dL_same_28 (by decide) rfl ?_
    refine g_iald (pc' := 30) C (0) rfl (by show 0 < 3; omega) dL_same_29 (al13 rfl) rfl rfl rfl ?_
    rw [S.y.q0]
    refine g_icmp_geN (tgt := 221) (pc' := 33) C (by omega) (by omega) dL_same_30 (by decide) rfl (fun c1 => ?_) (fun c1 => absurd c1 (by omega))
    refine g_iconst (v := nI 0) (pc' := 222) C dL_same_221 (by decide) rfl ?_
    refine g_istore (pc' := 224) C dL_same_222 rfl rfl ?_
    exact G_pick [0, 1, 2, 3, 4, 5, 6, 7, 8, 9, 10] rfl (l_same2 hfl C hR S hz hn9 z.2 0 c0 n0 (by omega) (by omega) (by omega))
  | succ n ih =>
    intro k c0 n0 x hi hx hc hn
    have hk : k < z.1 := by omega
    obtain ⟨a0, -, -, -, a4, a5, a6, -⟩ := S.y.m.2.1 k hk
    have hb : I 2 k 6 = J 13 11 k := S.s.B k hk
    have hx2 : blL I n (k + 1) (x + J 13 11 k) = blL I z.1 0 0 := by rw [← hb]; exact hx
    have count : ∀ (n2 i : Nat), i + n2 = 64 → G K z I P O c0 n0 103 [(0, .ref ((Kg K).2.2 0 0)), (1, .int v), (2, .ref ((Kg K).2.2 13 0)), (3, .ref ((Kg K).2.2 13 1)), (4, .ref ((Kg K).2.2 13 2)), (5, .ref ((Kg K).2.2 13 3)), (6, .ref ((Kg K).2.2 13 4)), (7, .ref ((Kg K).2.2 13 6)), (8, .int (nI 1)), (9, .int x), (10, .int (nI k)), (11, .int (nI (lcN (I 13) nw k 64))), (12, .int (nI 64))] [] → G K z I P O c0 n0 44 [(0, .ref ((Kg K).2.2 0 0)), (1, .int v), (2, .ref ((Kg K).2.2 13 0)), (3, .ref ((Kg K).2.2 13 1)), (4, .ref ((Kg K).2.2 13 2)), (5, .ref ((Kg K).2.2 13 3)), (6, .ref ((Kg K).2.2 13 4)), (7, .ref ((Kg K).2.2 13 6)), (8, .int (nI 1)), (9, .int x), (10, .int (nI k)), (11, .int (nI (lcN (I 13) nw k i))), (12, .int (nI i))] [] := by
      intro n2
      induction n2 with
      | zero =>
        intro i hi2 kk
        have e : i = 64 := by omega
        subst e
        refine g_iload (pc' := 46) C dL_same_44 rfl rfl ?_
        refine g_bipush (v := nI 64) (pc' := 48) C dL_same_46 (by decide) rfl ?_
        refine g_icmp_geN (tgt := 103) (pc' := 51) C (by omega) (by omega) dL_same_48 (by decide) rfl (fun c1 => ?_) (fun c1 => absurd c1 (by omega))
        exact kk
      | succ n2 ih2 =>
        intro i hi2 kk
        obtain ⟨u1, u2, v1, v2⟩ := S.y.u.1 i (by omega)
        have hle : lcN (I 13) nw k i ≤ i := lcN_le
        refine g_iload (pc' := 46) C dL_same_44 rfl rfl ?_
        refine g_bipush (v := nI 64) (pc' := 48) C dL_same_46 (by decide) rfl ?_
        refine g_icmp_geN (tgt := 103) (pc' := 51) C (by omega) (by omega) dL_same_48 (by decide) rfl (fun c1 => absurd c1 (by omega)) (fun c1 => ?_)
        refine g_iload (pc' := 53) C dL_same_51 rfl rfl ?_
        refine g_aload (pc' := 55) C dL_same_53 rfl rfl ?_
        refine g_iload (pc' := 57) C dL_same_55 rfl rfl ?_
        refine g_iald (pc' := 58) C (i) rfl (by show i < 64; omega) dL_same_57 (al13 rfl) rfl rfl rfl ?_
        rw [u1]
        refine g_if_le (tgt := 93) (pc' := 61) C dL_same_58 (by decide) rfl (fun c2 => ?_) (fun c2 => ?_)
        ·
          have g1 := (nI_leI (a := uN (I 13) i) (b := 0) (by omega) (by omega)).mp (by rw [nI_0]; exact c2)
          refine g_iconst (v := nI 0) (pc' := 94) C dL_same_93 (by decide) rfl ?_
          refine g_iaddN (pc' := 95) C dL_same_94 rfl ?_
          refine g_istore (pc' := 97) C dL_same_95 rfl rfl ?_
          refine g_iinc (pc' := 100) C dL_same_97 rfl (iiN _) rfl rfl ?_
          have e : lcN (I 13) nw k (i + 1) = lcN (I 13) nw k i + 0 := by
            rw [lcN_s, if_neg]
            intro q
            have q1 := q.1
            omega
          rw [← e]
          refine g_goto (tgt := 44) C dL_same_100 (by decide) ?_
          exact G_pick [0, 1, 2, 3, 4, 5, 6, 7, 8, 9, 10, 11, 12] rfl (ih2 (i + 1) (by omega) kk)
        ·
          skip
          refine g_aload (pc' := 63) C dL_same_61 rfl rfl ?_
          refine g_iload (pc' := 65) C dL_same_63 rfl rfl ?_
          refine g_iald (pc' := 66) C (i) rfl (by show i < 64; omega) dL_same_65 (al13 rfl) rfl rfl rfl ?_
          rw [u1]
          refine g_bipush (v := nI 8) (pc' := 68) C dL_same_66 (by decide) rfl ?_
          refine g_idivN (r := uN (I 13) i / 8) (pc' := 69) C (by omega) (by omega) rfl dL_same_68 rfl ?_
          refine g_aload (pc' := 71) C dL_same_69 rfl rfl ?_
          refine g_iconst (v := nI 2) (pc' := 72) C dL_same_71 (by decide) rfl ?_
          refine g_iald (pc' := 73) C (2) rfl (by show 2 < 3; omega) dL_same_72 (al13 rfl) rfl rfl rfl ?_
          rw [S.y.q2]
          refine g_icmp_leN (tgt := 93) (pc' := 76) C (by omega) (by omega) dL_same_73 (by decide) rfl (fun c3 => ?_) (fun c3 => ?_)
          ·
            have g2 : uN (I 13) i / 8 ≤ nw := c3
            refine g_iconst (v := nI 0) (pc' := 94) C dL_same_93 (by decide) rfl ?_
            refine g_iaddN (pc' := 95) C dL_same_94 rfl ?_
            refine g_istore (pc' := 97) C dL_same_95 rfl rfl ?_
            refine g_iinc (pc' := 100) C dL_same_97 rfl (iiN _) rfl rfl ?_
            have e : lcN (I 13) nw k (i + 1) = lcN (I 13) nw k i + 0 := by
              rw [lcN_s, if_neg]
              intro q
              have q1 := q.1
              omega
            rw [← e]
            refine g_goto (tgt := 44) C dL_same_100 (by decide) ?_
            exact G_pick [0, 1, 2, 3, 4, 5, 6, 7, 8, 9, 10, 11, 12] rfl (ih2 (i + 1) (by omega) kk)
          ·
            have g2 : nw < uN (I 13) i / 8 := c3
            refine g_aload (pc' := 78) C dL_same_76 rfl rfl ?_
            refine g_iload (pc' := 80) C dL_same_78 rfl rfl ?_
            refine g_iald (pc' := 81) C (i) rfl (by show i < 64; omega) dL_same_80 (al13 rfl) rfl rfl rfl ?_
            rw [v1]
            refine g_bipush (v := nI 16) (pc' := 83) C dL_same_81 (by decide) rfl ?_
            refine g_iremN (r := vN (I 13) i % 16) (pc' := 84) C (by omega) (by omega) rfl dL_same_83 rfl ?_
            refine g_iload (pc' := 86) C dL_same_84 rfl rfl ?_
            refine g_icmp_neN (tgt := 93) (pc' := 89) C (by omega) (by omega) dL_same_86 (by decide) rfl (fun c4 => ?_) (fun c4 => ?_)
            ·
              have g3 : ¬ vN (I 13) i % 16 = k := c4
              refine g_iconst (v := nI 0) (pc' := 94) C dL_same_93 (by decide) rfl ?_
              refine g_iaddN (pc' := 95) C dL_same_94 rfl ?_
              refine g_istore (pc' := 97) C dL_same_95 rfl rfl ?_
              refine g_iinc (pc' := 100) C dL_same_97 rfl (iiN _) rfl rfl ?_
              have e : lcN (I 13) nw k (i + 1) = lcN (I 13) nw k i + 0 := by
                rw [lcN_s, if_neg]
                intro q
                have q1 := q.1
                exact g3 q.2
              rw [← e]
              refine g_goto (tgt := 44) C dL_same_100 (by decide) ?_
              exact G_pick [0, 1, 2, 3, 4, 5, 6, 7, 8, 9, 10, 11, 12] rfl (ih2 (i + 1) (by omega) kk)
            ·
              have g3 : vN (I 13) i % 16 = k := c4
              refine g_iconst (v := nI 1) (pc' := 90) C dL_same_89 (by decide) rfl ?_
              refine g_goto (tgt := 94) C dL_same_90 (by decide) ?_
              refine g_iaddN (pc' := 95) C dL_same_94 rfl ?_
              refine g_istore (pc' := 97) C dL_same_95 rfl rfl ?_
              refine g_iinc (pc' := 100) C dL_same_97 rfl (iiN _) rfl rfl ?_
              have e : lcN (I 13) nw k (i + 1) = lcN (I 13) nw k i + 1 := by rw [lcN_s, if_pos ⟨g2, g3⟩]
              rw [← e]
              refine g_goto (tgt := 44) C dL_same_100 (by decide) ?_
              exact G_pick [0, 1, 2, 3, 4, 5, 6, 7, 8, 9, 10, 11, 12] rfl (ih2 (i + 1) (by omega) kk)
    refine g_iload (pc' := 26) C dL_same_24 rfl rfl ?_
    refine g_aload (pc' := 28) C dL_same_26 rfl rfl ?_
    refine g_iconst (v := nI 0) (pc' := 29) C dL_same_28 (by decide) rfl ?_
    refine g_iald (pc' := 30) C (0) rfl (by show 0 < 3; omega) dL_same_29 (al13 rfl) rfl rfl rfl ?_
    rw [S.y.q0]
    refine g_icmp_geN (tgt := 221) (pc' := 33) C (by omega) (by omega) dL_same_30 (by decide) rfl (fun c1 => absurd c1 (by omega)) (fun c1 => ?_)
    refine g_iload (pc' := 35) C dL_same_33 rfl rfl ?_
    refine g_if_eq (tgt := 221) (pc' := 38) C dL_same_35 (by decide) rfl (fun c2 => absurd c2 (by decide)) (fun c2 => ?_)
    refine g_iconst (v := nI 0) (pc' := 39) C dL_same_38 (by decide) rfl ?_
    refine g_istore (pc' := 41) C dL_same_39 rfl rfl ?_
    refine g_iconst (v := nI 0) (pc' := 42) C dL_same_41 (by decide) rfl ?_
    refine g_istore (pc' := 44) C dL_same_42 rfl rfl ?_
    refine G_pick [0, 1, 2, 3, 4, 5, 6, 7, 8, 9, 10, 11, 12] rfl (count 64 0 rfl ?_)
    have hlc : lcN (I 13) nw k 64 ≤ 64 := lcN_le
    refine g_iload (pc' := 105) C dL_same_103 rfl rfl ?_
    refine g_aload_n (pc' := 106) C dL_same_105 rfl rfl ?_
    refine g_bipush (v := nI 8) (pc' := 108) C dL_same_106 (by decide) rfl ?_
    refine g_iload (pc' := 110) C dL_same_108 rfl rfl ?_
    refine g_imulN (pc' := 111) C dL_same_110 rfl ?_
    refine g_iconst (v := nI 5) (pc' := 112) C dL_same_111 (by decide) rfl ?_
    refine g_iaddN (pc' := 113) C dL_same_112 rfl ?_
    refine g_iald (pc' := 114) C (8 * k + 5) rfl (by show _ < 64; omega) dL_same_113 (al13 rfl) rfl rfl rfl ?_
    rw [a5]
    refine g_iadd (pc' := 115) C dL_same_114 rfl ?_
    refine g_istore (pc' := 117) C dL_same_115 rfl rfl ?_
    refine g_aload_n (pc' := 118) C dL_same_117 rfl rfl ?_
    refine g_iload (pc' := 120) C dL_same_118 rfl rfl ?_
    refine g_iconst (v := nI 0) (pc' := 121) C dL_same_120 (by decide) rfl ?_
    refine x_callV (pc' := 124) (mc := 1) (ms := 6) (As := [.int (nI k), .int (nI 0)]) (S := []) (post := fun _ => pX (cK15 z.1 (nI k) (nI 0)) (Kg K) z (some (.int (cV15 I P (nI k).toNatClampNeg (nI 0)))) I P O) C hR.k cv_L_96 (fun sz => m_X3_about hfl S.s.X sz) dL_same_121 (by first | assumption | exact rfl | exact al13 rfl | exact Nat.le_of_ble_eq_true rfl) rfl rfl ⟨rfl, by decide +kernel, by decide +kernel, (by decide +kernel : (parseMethodDescriptor yX3_about.desc).map (fun d => d.parameters.length) = some 2)⟩ ⟨⟨Nat.le_of_ble_eq_true rfl, Nat.le_of_ble_eq_true rfl⟩, rfl, rfl⟩ rfl (Nat.le_of_ble_eq_true rfl) ⟨show _ ≤ 200 from by omega, show _ ≤ 1200 from by omega⟩ rfl (fun E hE => ?_) (fun sz' v' g' z' I' P' O' hA' hp => ?_)
    · obtain ⟨q, hq, hkq⟩ := hE
      rw [(about_v S.s hM8 hk (y := 0) (by omega)).1] at hkq
      subst hkq
      simp only [List.mem_cons, List.not_mem_nil, or_false, Prod.mk.injEq] at hq
      rcases hq with ⟨q, -⟩ | ⟨q, -⟩ <;> exact absurd q (by decide)
    obtain ⟨hkq, qv, qg, qz, qI, qP, qO⟩ := hp
    rw [qv, qg, qz, qI, qP, qO, Kw_self, (about_v S.s hM8 hk (y := 0) (by omega)).2, mV15_0]
    clear hkq qv qg qz qI qP qO
    refine g_aload_n (pc' := 125) C dL_same_124 rfl rfl ?_
    refine g_bipush (v := nI 8) (pc' := 127) C dL_same_125 (by decide) rfl ?_
    refine g_iload (pc' := 129) C dL_same_127 rfl rfl ?_
    refine g_imulN (pc' := 130) C dL_same_129 rfl ?_
    refine g_iald (pc' := 131) C (8 * k) rfl (by show _ < 64; omega) dL_same_130 (al13 rfl) rfl rfl rfl ?_
    rw [a0]
    refine g_icmp_ne (tgt := 212) (pc' := 134) C dL_same_131 (by decide) rfl (fun c1 => absurd rfl c1) (fun c1 => ?_)
    refine g_aload_n (pc' := 135) C dL_same_134 rfl rfl ?_
    refine g_iload (pc' := 137) C dL_same_135 rfl rfl ?_
    refine g_iconst (v := nI 5) (pc' := 138) C dL_same_137 (by decide) rfl ?_
    refine x_callV (pc' := 141) (mc := 1) (ms := 6) (As := [.int (nI k), .int (nI 5)]) (S := []) (post := fun _ => pX (cK15 z.1 (nI k) (nI 5)) (Kg K) z (some (.int (cV15 I P (nI k).toNatClampNeg (nI 5)))) I P O) C hR.k cv_L_96 (fun sz => m_X3_about hfl S.s.X sz) dL_same_138 (by first | assumption | exact rfl | exact al13 rfl | exact Nat.le_of_ble_eq_true rfl) rfl rfl ⟨rfl, by decide +kernel, by decide +kernel, (by decide +kernel : (parseMethodDescriptor yX3_about.desc).map (fun d => d.parameters.length) = some 2)⟩ ⟨⟨Nat.le_of_ble_eq_true rfl, Nat.le_of_ble_eq_true rfl⟩, rfl, rfl⟩ rfl (Nat.le_of_ble_eq_true rfl) ⟨show _ ≤ 200 from by omega, show _ ≤ 1200 from by omega⟩ rfl (fun E hE => ?_) (fun sz' v' g' z' I' P' O' hA' hp => ?_)
    · obtain ⟨q, hq, hkq⟩ := hE
      rw [(about_v S.s hM8 hk (y := 5) (by omega)).1] at hkq
      subst hkq
      simp only [List.mem_cons, List.not_mem_nil, or_false, Prod.mk.injEq] at hq
      rcases hq with ⟨q, -⟩ | ⟨q, -⟩ <;> exact absurd q (by decide)
    obtain ⟨hkq, qv, qg, qz, qI, qP, qO⟩ := hp
    rw [qv, qg, qz, qI, qP, qO, Kw_self, (about_v S.s hM8 hk (y := 5) (by omega)).2, mV15_5]
    clear hkq qv qg qz qI qP qO
    refine g_aload_n (pc' := 142) C dL_same_141 rfl rfl ?_
    refine g_bipush (v := nI 8) (pc' := 144) C dL_same_142 (by decide) rfl ?_
    refine g_iload (pc' := 146) C dL_same_144 rfl rfl ?_
    refine g_imulN (pc' := 147) C dL_same_146 rfl ?_
    refine g_iconst (v := nI 5) (pc' := 148) C dL_same_147 (by decide) rfl ?_
    refine g_iaddN (pc' := 149) C dL_same_148 rfl ?_
    refine g_iald (pc' := 150) C (8 * k + 5) rfl (by show _ < 64; omega) dL_same_149 (al13 rfl) rfl rfl rfl ?_
    rw [a5]
    refine g_icmp_ne (tgt := 212) (pc' := 153) C dL_same_150 (by decide) rfl (fun c2 => absurd rfl c2) (fun c2 => ?_)
    refine g_aload_n (pc' := 154) C dL_same_153 rfl rfl ?_
    refine g_iload (pc' := 156) C dL_same_154 rfl rfl ?_
    refine g_bipush (v := nI 6) (pc' := 158) C dL_same_156 (by decide) rfl ?_
    refine x_callV (pc' := 161) (mc := 1) (ms := 6) (As := [.int (nI k), .int (nI 6)]) (S := []) (post := fun _ => pX (cK15 z.1 (nI k) (nI 6)) (Kg K) z (some (.int (cV15 I P (nI k).toNatClampNeg (nI 6)))) I P O) C hR.k cv_L_96 (fun sz => m_X3_about hfl S.s.X sz) dL_same_158 (by first | assumption | exact rfl | exact al13 rfl | exact Nat.le_of_ble_eq_true rfl) rfl rfl ⟨rfl, by decide +kernel, by decide +kernel, (by decide +kernel : (parseMethodDescriptor yX3_about.desc).map (fun d => d.parameters.length) = some 2)⟩ ⟨⟨Nat.le_of_ble_eq_true rfl, Nat.le_of_ble_eq_true rfl⟩, rfl, rfl⟩ rfl (Nat.le_of_ble_eq_true rfl) ⟨show _ ≤ 200 from by omega, show _ ≤ 1200 from by omega⟩ rfl (fun E hE => ?_) (fun sz' v' g' z' I' P' O' hA' hp => ?_)
    · obtain ⟨q, hq, hkq⟩ := hE
      rw [(about_v S.s hM8 hk (y := 6) (by omega)).1] at hkq
      subst hkq
      simp only [List.mem_cons, List.not_mem_nil, or_false, Prod.mk.injEq] at hq
      rcases hq with ⟨q, -⟩ | ⟨q, -⟩ <;> exact absurd q (by decide)
    obtain ⟨hkq, qv, qg, qz, qI, qP, qO⟩ := hp
    rw [qv, qg, qz, qI, qP, qO, Kw_self, (about_v S.s hM8 hk (y := 6) (by omega)).2, mV15_6]
    clear hkq qv qg qz qI qP qO
    refine g_aload_n (pc' := 162) C dL_same_161 rfl rfl ?_
    refine g_bipush (v := nI 8) (pc' := 164) C dL_same_162 (by decide) rfl ?_
    refine g_iload (pc' := 166) C dL_same_164 rfl rfl ?_
    refine g_imulN (pc' := 167) C dL_same_166 rfl ?_
    refine g_bipush (v := nI 6) (pc' := 169) C dL_same_167 (by decide) rfl ?_
    refine g_iaddN (pc' := 170) C dL_same_169 rfl ?_
    refine g_iald (pc' := 171) C (8 * k + 6) rfl (by show _ < 64; omega) dL_same_170 (al13 rfl) rfl rfl rfl ?_
    rw [a6]
    refine g_icmp_ne (tgt := 212) (pc' := 174) C dL_same_171 (by decide) rfl (fun c3 => absurd rfl c3) (fun c3 => ?_)
    refine g_aload_n (pc' := 175) C dL_same_174 rfl rfl ?_
    refine g_iload (pc' := 177) C dL_same_175 rfl rfl ?_
    refine g_bipush (v := nI 7) (pc' := 179) C dL_same_177 (by decide) rfl ?_
    refine x_callV (pc' := 182) (mc := 1) (ms := 6) (As := [.int (nI k), .int (nI 7)]) (S := []) (post := fun _ => pX (cK15 z.1 (nI k) (nI 7)) (Kg K) z (some (.int (cV15 I P (nI k).toNatClampNeg (nI 7)))) I P O) C hR.k cv_L_96 (fun sz => m_X3_about hfl S.s.X sz) dL_same_179 (by first | assumption | exact rfl | exact al13 rfl | exact Nat.le_of_ble_eq_true rfl) rfl rfl ⟨rfl, by decide +kernel, by decide +kernel, (by decide +kernel : (parseMethodDescriptor yX3_about.desc).map (fun d => d.parameters.length) = some 2)⟩ ⟨⟨Nat.le_of_ble_eq_true rfl, Nat.le_of_ble_eq_true rfl⟩, rfl, rfl⟩ rfl (Nat.le_of_ble_eq_true rfl) ⟨show _ ≤ 200 from by omega, show _ ≤ 1200 from by omega⟩ rfl (fun E hE => ?_) (fun sz' v' g' z' I' P' O' hA' hp => ?_)
    · obtain ⟨q, hq, hkq⟩ := hE
      rw [(about_v S.s hM8 hk (y := 7) (by omega)).1] at hkq
      subst hkq
      simp only [List.mem_cons, List.not_mem_nil, or_false, Prod.mk.injEq] at hq
      rcases hq with ⟨q, -⟩ | ⟨q, -⟩ <;> exact absurd q (by decide)
    obtain ⟨hkq, qv, qg, qz, qI, qP, qO⟩ := hp
    rw [qv, qg, qz, qI, qP, qO, Kw_self, (about_v S.s hM8 hk (y := 7) (by omega)).2, mV15_7, tcO_lc S.y X (show k < 8 by omega)]
    clear hkq qv qg qz qI qP qO
    refine g_iload (pc' := 184) C dL_same_182 rfl rfl ?_
    refine g_icmp_neN (tgt := 212) (pc' := 187) C (by omega) (by omega) dL_same_184 (by decide) rfl (fun c4 => absurd rfl c4) (fun c4 => ?_)
    clear c4
    refine g_aload_n (pc' := 188) C dL_same_187 rfl rfl ?_
    refine g_iload (pc' := 190) C dL_same_188 rfl rfl ?_
    refine g_iconst (v := nI 4) (pc' := 191) C dL_same_190 (by decide) rfl ?_
    refine x_callV (pc' := 194) (mc := 1) (ms := 6) (As := [.int (nI k), .int (nI 4)]) (S := []) (post := fun _ => pX (cK15 z.1 (nI k) (nI 4)) (Kg K) z (some (.int (cV15 I P (nI k).toNatClampNeg (nI 4)))) I P O) C hR.k cv_L_96 (fun sz => m_X3_about hfl S.s.X sz) dL_same_191 (by first | assumption | exact rfl | exact al13 rfl | exact Nat.le_of_ble_eq_true rfl) rfl rfl ⟨rfl, by decide +kernel, by decide +kernel, (by decide +kernel : (parseMethodDescriptor yX3_about.desc).map (fun d => d.parameters.length) = some 2)⟩ ⟨⟨Nat.le_of_ble_eq_true rfl, Nat.le_of_ble_eq_true rfl⟩, rfl, rfl⟩ rfl (Nat.le_of_ble_eq_true rfl) ⟨show _ ≤ 200 from by omega, show _ ≤ 1200 from by omega⟩ rfl (fun E hE => ?_) (fun sz' v' g' z' I' P' O' hA' hp => ?_)
    · obtain ⟨q, hq, hkq⟩ := hE
      rw [(about_v S.s hM8 hk (y := 4) (by omega)).1] at hkq
      subst hkq
      simp only [List.mem_cons, List.not_mem_nil, or_false, Prod.mk.injEq] at hq
      rcases hq with ⟨q, -⟩ | ⟨q, -⟩ <;> exact absurd q (by decide)
    obtain ⟨hkq, qv, qg, qz, qI, qP, qO⟩ := hp
    rw [qv, qg, qz, qI, qP, qO, Kw_self, (about_v S.s hM8 hk (y := 4) (by omega)).2, mV15_4]
    clear hkq qv qg qz qI qP qO
    refine g_aload_n (pc' := 195) C dL_same_194 rfl rfl ?_
    refine g_bipush (v := nI 8) (pc' := 197) C dL_same_195 (by decide) rfl ?_
    refine g_iload (pc' := 199) C dL_same_197 rfl rfl ?_
    refine g_imulN (pc' := 200) C dL_same_199 rfl ?_
    refine g_iconst (v := nI 4) (pc' := 201) C dL_same_200 (by decide) rfl ?_
    refine g_iaddN (pc' := 202) C dL_same_201 rfl ?_
    refine g_iald (pc' := 203) C (8 * k + 4) rfl (by show _ < 64; omega) dL_same_202 (al13 rfl) rfl rfl rfl ?_
    rw [a4]
    refine g_iconst (v := nI 1) (pc' := 204) C dL_same_203 (by decide) rfl ?_
    refine g_isub (pc' := 205) C dL_same_204 rfl ?_
    rw [nI_s1]
    refine g_icmp_ne (tgt := 212) (pc' := 208) C dL_same_205 (by decide) rfl (fun c5 => absurd rfl c5) (fun c5 => ?_)
    refine g_iconst (v := nI 1) (pc' := 209) C dL_same_208 (by decide) rfl ?_
    refine g_goto (tgt := 213) C dL_same_209 (by decide) ?_
    refine g_istore (pc' := 215) C dL_same_213 rfl rfl ?_
    refine g_iinc (pc' := 218) C dL_same_215 rfl (iiN _) rfl rfl ?_
    refine g_goto (tgt := 24) C dL_same_218 (by decide) ?_
    exact G_pick [0, 1, 2, 3, 4, 5, 6, 7, 8, 9, 10] rfl (ih (k + 1) _ _ _ (by omega) hx2 (by omega) (by omega))
set_option maxRecDepth 20000 in
theorem w_same {l : Launch} (hfl : l.stackTraces = false) {g : wG} {z : wZ} {I : wI} {P : wP} {O : wO} {nw : Nat} {J : wI} {v : Int32} (S : Stt z nw I P J) (hz : 0 < z.1) (hn9 : nw ≤ 900) (sz : Nat) : XT l yL_same (.code yL_same cL_same 16 (some .boolean)) { frames := 7, cells := 200, slots := 1200, locals := 150 } g z sz [.ref (g.2.2 0 0), .int v, .ref (g.2.2 13 0), .ref (g.2.2 13 1), .ref (g.2.2 13 2), .ref (g.2.2 13 3), .ref (g.2.2 13 4), .ref (g.2.2 13 6)] I P O 200 1200 (sP g z I P O) (fun _ => False) := by
  refine XT.of (own := RL) rfl (by decide +kernel) hfl (Nat.le_of_ble_eq_true rfl) rfl (fun K C hl hg hR hT => ?_)
  subst hl
  subst hg
  have hn930 := S.y.n9
  refine g_aload_n (pc' := 1) C dL_same_0 rfl rfl ?_
  refine g_callV (pc' := 4) (As := []) (S := []) C cv_L_92 m_X3_hour dL_same_1 (by first | assumption | exact rfl | exact al13 rfl | exact Nat.le_of_ble_eq_true rfl) rfl rfl ⟨rfl, by decide +kernel, by decide +kernel, (by decide +kernel : (parseMethodDescriptor yX3_hour.desc).map (fun d => d.parameters.length) = some 0)⟩ ⟨⟨Nat.le_of_ble_eq_true rfl, Nat.le_of_ble_eq_true rfl⟩, rfl, rfl⟩ rfl (Nat.le_of_ble_eq_true rfl) ⟨Nat.zero_le _, Nat.zero_le _⟩ rfl (fun v1 I1 P1 q => ?_)
  obtain ⟨rfl, q1, q2⟩ := q
  rw [q1, q2, S.s.A.n.1]
  refine g_aload (pc' := 6) C dL_same_4 rfl rfl ?_
  refine g_iconst (v := nI 2) (pc' := 7) C dL_same_6 (by decide) rfl ?_
  refine g_iald (pc' := 8) C (2) rfl (by show 2 < 3; omega) dL_same_7 (al13 rfl) rfl rfl rfl ?_
  rw [S.y.q2]
  refine g_icmp_neN (tgt := 15) (pc' := 11) C (by omega) (by omega) dL_same_8 (by decide) rfl (fun c1 => absurd rfl c1) (fun c1 => ?_)
  refine g_iconst (v := nI 1) (pc' := 12) C dL_same_11 (by decide) rfl ?_
  refine g_goto (tgt := 16) C dL_same_12 (by decide) ?_
  refine g_istore (pc' := 18) C dL_same_16 rfl rfl ?_
  refine g_iconst (v := nI 0) (pc' := 19) C dL_same_18 (by decide) rfl ?_
  refine g_istore (pc' := 21) C dL_same_19 rfl rfl ?_
  refine g_iconst (v := nI 0) (pc' := 22) C dL_same_21 (by decide) rfl ?_
  refine g_istore (pc' := 24) C dL_same_22 rfl rfl ?_
  exact G_pick [0, 1, 2, 3, 4, 5, 6, 7, 8, 9, 10] rfl (l_same1 hfl C hR S hz hn9 z.1 0 0 0 (nI 0) (by omega) (by rw [nI_0]) (by omega) (by omega))
end WLsame
