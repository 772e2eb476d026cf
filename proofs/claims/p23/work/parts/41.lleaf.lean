section WLleaf
theorem nI1' : nI 1 = 1 := by decide
theorem nI_s1 {x : Int32} : x + 1 - nI 1 = x := by rw [nI1', Int32.add_sub_cancel]
set_option maxRecDepth 20000 in
theorem w_low {l : Launch} {g : wG} {z : wZ} {I : wI} {P : wP} {O : wO} {v : Int32} {b : Nat} (hb : 0 < b) (hb2 : b < 2 ^ 31) : RT l yL_low cL_low 2 ((some .int)) { frames := 0, cells := 0, slots := 0, locals := 0 } g z [.int v, .int (nI b)] I P O (dp (some (.int (nI (lowN v b)))) I P) := by
  refine RT.of (own := RL) rfl (by decide +kernel) (Nat.le_of_ble_eq_true rfl) rfl (fun K C hl hg hR => ?_)
  subst hl
  subst hg
  refine g_iload_n (pc' := 1) C dL_low_0 rfl rfl ?_
  refine g_ldc (v := 2147483647) (pc' := 3) C kL_9 dL_low_1 rfl ?_
  refine g_iand (pc' := 4) C dL_low_3 rfl ?_
  rw [pk_and v 31 (by decide)]
  refine g_iload_n (pc' := 5) C dL_low_4 rfl rfl ?_
  refine g_iremN (r := lowN v b) (pc' := 6) C (by omega) ⟨hb, hb2⟩ rfl dL_low_5 rfl ?_
  exact g_iret C hR dL_low_6 ⟨rfl, rfl, rfl⟩
set_option maxRecDepth 20000 in
theorem w_speaker {l : Launch} {g : wG} {z : wZ} {I : wI} {P : wP} {O : wO} {h x : Nat} {sp : Int32} (hx : I 13 1 (4 * h + 1) = nI x) (hx2 : x < 2 ^ 31) (hh : 4 * h + 1 < 64) (hsp : nI (x / 64) - nI 1 = sp) : RT l yL_speaker cL_speaker 2 ((some .int)) { frames := 0, cells := 0, slots := 0, locals := 0 } g z [.int (nI h), .ref (g.2.2 13 1)] I P O (dp (some (.int sp)) I P) := by
  refine RT.of (own := RL) rfl (by decide +kernel) (Nat.le_of_ble_eq_true rfl) rfl (fun K C hl hg hR => ?_)
  subst hl
  subst hg
  refine g_aload_n (pc' := 1) C dL_speaker_0 rfl rfl ?_
  refine g_iconst (v := nI 4) (pc' := 2) C dL_speaker_1 (by decide) rfl ?_
  refine g_iload_n (pc' := 3) C dL_speaker_2 rfl rfl ?_
  refine g_imulN (pc' := 4) C dL_speaker_3 rfl ?_
  refine g_iconst (v := nI 1) (pc' := 5) C dL_speaker_4 (by decide) rfl ?_
  refine g_iaddN (pc' := 6) C dL_speaker_5 rfl ?_
  refine g_iald (pc' := 7) C (4 * h + 1) rfl hh dL_speaker_6 (al13 rfl) rfl rfl rfl ?_
  rw [hx]
  refine g_bipush (v := nI 64) (pc' := 9) C dL_speaker_7 (by decide) rfl ?_
  refine g_idivN (r := x / 64) (pc' := 10) C (by omega) (by omega) rfl dL_speaker_9 rfl ?_
  refine g_iconst (v := nI 1) (pc' := 11) C dL_speaker_10 (by decide) rfl ?_
  refine g_isub (pc' := 12) C dL_speaker_11 rfl ?_
  exact g_iret C hR dL_speaker_12 ⟨by rw [hsp], rfl, rfl⟩
set_option maxRecDepth 20000 in
theorem w_paid {l : Launch} {g : wG} {z : wZ} {I : wI} {P : wP} {O : wO} {i t nw : Nat} (hi : i < 4) (ht : t < 100000) (hn : nw ≤ 930) (hu : ∀ k, k < 64 → I 13 3 k = nI (uN (I 13) k) ∧ uN (I 13) k < 65536) (hq : I 13 6 2 = nI nw) : RT l yL_paid cL_paid 5 ((some .int)) { frames := 0, cells := 0, slots := 0, locals := 0 } g z [.int (nI i), .int (nI t), .ref (g.2.2 13 3), .ref (g.2.2 13 6)] I P O (fun v I' P' => I' = I ∧ P' = P ∧ ((v = some (.int (-1)) ∧ ∀ j, j < 64 → ¬ (uN (I 13) j = i + 1 + 8 * t ∧ nw < t)) ∨ ∃ k, k < 64 ∧ v = some (.int (nI k)) ∧ uN (I 13) k = i + 1 + 8 * t ∧ nw < t)) := by
  refine RT.of (own := RL) rfl (by decide +kernel) (Nat.le_of_ble_eq_true rfl) rfl (fun K C hl hg hR => ?_)
  subst hl
  subst hg
  have loop : ∀ (n k : Nat), k + n = 64 → (∀ j, j < k → ¬ (uN (I 13) j = i + 1 + 8 * t ∧ nw < t)) → G K z I P O 0 0 3 [(0, .int (nI i)), (1, .int (nI t)), (2, .ref ((Kg K).2.2 13 3)), (3, .ref ((Kg K).2.2 13 6)), (4, .int (nI k))] [] := by
    intro n
    induction n with
    | zero =>
      intro k hk hno
      refine g_iload (pc' := 5) C dL_paid_3 rfl rfl ?_
      refine g_bipush (v := nI 64) (pc' := 7) C dL_paid_5 (by decide) rfl ?_
      refine g_icmp_geN (tgt := 41) (pc' := 10) C (by omega) (by omega) dL_paid_7 (by decide) rfl (fun c1 => ?_) (fun c1 => absurd c1 (by omega))
      refine g_iconst (v := (-1)) (pc' := 42) C dL_paid_41 (by decide) rfl ?_
      exact g_iret C hR dL_paid_42 ⟨rfl, rfl, Or.inl ⟨rfl, fun j hj => hno j (by omega)⟩⟩
    | succ n ih =>
      intro k hk hno
      obtain ⟨u1, u2⟩ := hu k (by omega)
      refine g_iload (pc' := 5) C dL_paid_3 rfl rfl ?_
      refine g_bipush (v := nI 64) (pc' := 7) C dL_paid_5 (by decide) rfl ?_
      refine g_icmp_geN (tgt := 41) (pc' := 10) C (by omega) (by omega) dL_paid_7 (by decide) rfl (fun c1 => absurd c1 (by omega)) (fun c1 => ?_)
      refine g_aload_n (pc' := 11) C dL_paid_10 rfl rfl ?_
      refine g_iload (pc' := 13) C dL_paid_11 rfl rfl ?_
      refine g_iald (pc' := 14) C (k) rfl (by show k < 64; omega) dL_paid_13 (al13 rfl) rfl rfl rfl ?_
      rw [u1]
      refine g_iload_n (pc' := 15) C dL_paid_14 rfl rfl ?_
      refine g_iconst (v := nI 1) (pc' := 16) C dL_paid_15 (by decide) rfl ?_
      refine g_iaddN (pc' := 17) C dL_paid_16 rfl ?_
      refine g_bipush (v := nI 8) (pc' := 19) C dL_paid_17 (by decide) rfl ?_
      refine g_iload_n (pc' := 20) C dL_paid_19 rfl rfl ?_
      refine g_imulN (pc' := 21) C dL_paid_20 rfl ?_
      refine g_iaddN (pc' := 22) C dL_paid_21 rfl ?_
      refine g_icmp_neN (tgt := 35) (pc' := 25) C (by omega) (by omega) dL_paid_22 (by decide) rfl (fun c2 => ?_) (fun c2 => ?_)
      ·
        refine g_iinc (pc' := 38) C dL_paid_35 rfl (iiN _) rfl rfl ?_
        refine g_goto (tgt := 3) C dL_paid_38 (by decide) ?_
        exact G_pick [0, 1, 2, 3, 4] rfl (ih (k + 1) (by omega) (fun j hj q => by
          by_cases e : j = k
          · subst e; exact c2 q.1
          · exact hno j (by omega) q))
      ·
        refine g_iload_n (pc' := 26) C dL_paid_25 rfl rfl ?_
        refine g_aload_n (pc' := 27) C dL_paid_26 rfl rfl ?_
        refine g_iconst (v := nI 2) (pc' := 28) C dL_paid_27 (by decide) rfl ?_
        refine g_iald (pc' := 29) C (2) rfl (by show 2 < 3; omega) dL_paid_28 (al13 rfl) rfl rfl rfl ?_
        rw [hq]
        refine g_icmp_leN (tgt := 35) (pc' := 32) C (by omega) (by omega) dL_paid_29 (by decide) rfl (fun c3 => ?_) (fun c3 => ?_)
        ·
          refine g_iinc (pc' := 38) C dL_paid_35 rfl (iiN _) rfl rfl ?_
          refine g_goto (tgt := 3) C dL_paid_38 (by decide) ?_
          exact G_pick [0, 1, 2, 3, 4] rfl (ih (k + 1) (by omega) (fun j hj q => by
            by_cases e : j = k
            · subst e; omega
            · exact hno j (by omega) q))
        ·
          refine g_iload (pc' := 34) C dL_paid_32 rfl rfl ?_
          exact g_iret C hR dL_paid_34 ⟨rfl, rfl, Or.inr ⟨k, by omega, rfl, c2, c3⟩⟩
  refine g_iconst (v := nI 0) (pc' := 1) C dL_paid_0 (by decide) rfl ?_
  refine g_istore (pc' := 3) C dL_paid_1 rfl rfl ?_
  exact G_pick [0, 1, 2, 3, 4] rfl (loop 64 0 rfl (fun j h => absurd h (Nat.not_lt_zero _)))
set_option maxRecDepth 20000 in
theorem w_keeps {l : Launch} {g : wG} {z : wZ} {I : wI} {P : wP} {O : wO} {i t nw mt a : Nat} (hn : nw ≤ 930) (hu : ∀ k, k < 64 → I 13 3 k = nI (uN (I 13) k) ∧ uN (I 13) k < 65536) (hq : I 13 6 2 = nI nw) (hfr : (∀ k, k < 63 → nw < uN (I 13) k / 8) → ¬ nw < uN (I 13) 63 / 8) : RT l yL_keeps cL_keeps 8 (none) { frames := 0, cells := 0, slots := 0, locals := 0 } g z [.int (nI i), .int (nI t), .int (nI mt), .int (nI a), .ref (g.2.2 13 3), .ref (g.2.2 13 4), .ref (g.2.2 13 6)] I P O (fun v I' P' => v = none ∧ P' = P ∧ ∃ k, k < 64 ∧ ¬ nw < uN (I 13) k / 8 ∧ I' = upI (upI I 13 3 k (nI (i + 1 + 8 * t))) 13 4 k (nI (mt + 16 * a))) := by
  refine RT.of (own := RL) rfl (by decide +kernel) (Nat.le_of_ble_eq_true rfl) rfl (fun K C hl hg hR => ?_)
  subst hl
  subst hg
  have tail : ∀ k : Nat, k < 64 → ¬ nw < uN (I 13) k / 8 → G K z I P O 0 0 39 [(0, .int (nI i)), (1, .int (nI t)), (2, .int (nI mt)), (3, .int (nI a)), (4, .ref ((Kg K).2.2 13 3)), (5, .ref ((Kg K).2.2 13 4)), (6, .ref ((Kg K).2.2 13 6)), (7, .int (nI k))] [] := by
    intro k hk hf
    refine g_aload (pc' := 41) C dL_keeps_39 rfl rfl ?_
    refine g_iload (pc' := 43) C dL_keeps_41 rfl rfl ?_
    refine g_iload_n (pc' := 44) C dL_keeps_43 rfl rfl ?_
    refine g_iconst (v := nI 1) (pc' := 45) C dL_keeps_44 (by decide) rfl ?_
    refine g_iaddN (pc' := 46) C dL_keeps_45 rfl ?_
    refine g_bipush (v := nI 8) (pc' := 48) C dL_keeps_46 (by decide) rfl ?_
    refine g_iload_n (pc' := 49) C dL_keeps_48 rfl rfl ?_
    refine g_imulN (pc' := 50) C dL_keeps_49 rfl ?_
    refine g_iaddN (pc' := 51) C dL_keeps_50 rfl ?_
    refine g_iast (pc' := 52) C (k) rfl hk dL_keeps_51 (al13 rfl) (fun _ => rfl) rfl rfl ?_
    refine g_aload (pc' := 54) C dL_keeps_52 rfl rfl ?_
    refine g_iload (pc' := 56) C dL_keeps_54 rfl rfl ?_
    refine g_iload_n (pc' := 57) C dL_keeps_56 rfl rfl ?_
    refine g_bipush (v := nI 16) (pc' := 59) C dL_keeps_57 (by decide) rfl ?_
    refine g_iload_n (pc' := 60) C dL_keeps_59 rfl rfl ?_
    refine g_imulN (pc' := 61) C dL_keeps_60 rfl ?_
    refine g_iaddN (pc' := 62) C dL_keeps_61 rfl ?_
    refine g_iast (pc' := 63) C (k) rfl hk dL_keeps_62 (al13 rfl) (fun _ => rfl) rfl rfl ?_
    exact g_vret C hR dL_keeps_63 ⟨rfl, rfl, k, hk, hf, rfl⟩
  have loop : ∀ (n k : Nat), k + n = 63 → (∀ j, j < k → nw < uN (I 13) j / 8) → G K z I P O 0 0 3 [(0, .int (nI i)), (1, .int (nI t)), (2, .int (nI mt)), (3, .int (nI a)), (4, .ref ((Kg K).2.2 13 3)), (5, .ref ((Kg K).2.2 13 4)), (6, .ref ((Kg K).2.2 13 6)), (7, .int (nI k))] [] := by
    intro n
    induction n with
    | zero =>
      intro k hk hno
      refine g_iload (pc' := 5) C dL_keeps_3 rfl rfl ?_
      refine g_bipush (v := nI 63) (pc' := 7) C dL_keeps_5 (by decide) rfl ?_
      refine g_icmp_geN (tgt := 39) (pc' := 10) C (by omega) (by omega) dL_keeps_7 (by decide) rfl (fun c1 => ?_) (fun c1 => absurd c1 (by omega))
      have h63 : k = 63 := by omega
      subst h63
      exact tail 63 (by omega) (hfr hno)
    | succ n ih =>
      intro k hk hno
      obtain ⟨u1, u2⟩ := hu k (by omega)
      refine g_iload (pc' := 5) C dL_keeps_3 rfl rfl ?_
      refine g_bipush (v := nI 63) (pc' := 7) C dL_keeps_5 (by decide) rfl ?_
      refine g_icmp_geN (tgt := 39) (pc' := 10) C (by omega) (by omega) dL_keeps_7 (by decide) rfl (fun c1 => absurd c1 (by omega)) (fun c1 => ?_)
      refine g_aload (pc' := 12) C dL_keeps_10 rfl rfl ?_
      refine g_iload (pc' := 14) C dL_keeps_12 rfl rfl ?_
      refine g_iald (pc' := 15) C (k) rfl (by show k < 64; omega) dL_keeps_14 (al13 rfl) rfl rfl rfl ?_
      rw [u1]
      refine g_if_le (tgt := 39) (pc' := 18) C dL_keeps_15 (by decide) rfl (fun c2 => ?_) (fun c2 => ?_)
      ·
        have c2 := (nI_leI (a := uN (I 13) k) (b := 0) (by omega) (by omega)).mp (by rw [nI_0]; exact c2)
        exact tail k (by omega) (by omega)
      ·
        refine g_aload (pc' := 20) C dL_keeps_18 rfl rfl ?_
        refine g_iload (pc' := 22) C dL_keeps_20 rfl rfl ?_
        refine g_iald (pc' := 23) C (k) rfl (by show k < 64; omega) dL_keeps_22 (al13 rfl) rfl rfl rfl ?_
        rw [u1]
        refine g_bipush (v := nI 8) (pc' := 25) C dL_keeps_23 (by decide) rfl ?_
        refine g_idivN (r := uN (I 13) k / 8) (pc' := 26) C (by omega) (by omega) rfl dL_keeps_25 rfl ?_
        refine g_aload (pc' := 28) C dL_keeps_26 rfl rfl ?_
        refine g_iconst (v := nI 2) (pc' := 29) C dL_keeps_28 (by decide) rfl ?_
        refine g_iald (pc' := 30) C (2) rfl (by show 2 < 3; omega) dL_keeps_29 (al13 rfl) rfl rfl rfl ?_
        rw [hq]
        refine g_icmp_leN (tgt := 39) (pc' := 33) C (by omega) (by omega) dL_keeps_30 (by decide) rfl (fun c3 => ?_) (fun c3 => ?_)
        ·
          exact tail k (by omega) (by omega)
        ·
          refine g_iinc (pc' := 36) C dL_keeps_33 rfl (iiN _) rfl rfl ?_
          refine g_goto (tgt := 3) C dL_keeps_36 (by decide) ?_
          exact G_pick [0, 1, 2, 3, 4, 5, 6, 7] rfl (ih (k + 1) (by omega) (fun j hj => by
            by_cases e : j = k
            · subst e; omega
            · exact hno j (by omega)))
  refine g_iconst (v := nI 0) (pc' := 1) C dL_keeps_0 (by decide) rfl ?_
  refine g_istore (pc' := 3) C dL_keeps_1 rfl rfl ?_
  exact G_pick [0, 1, 2, 3, 4, 5, 6, 7] rfl (loop 63 0 rfl (fun j h => absurd h (Nat.not_lt_zero _)))
set_option maxRecDepth 20000 in
theorem w_shares {l : Launch} {g : wG} {z : wZ} {I : wI} {P : wP} {O : wO} {J : wI} {a b : Nat} (ha : a < 8) (hb : b < 8) (a2 : I 13 0 (8 * a + 2) = J 13 8 a) (a3 : I 13 0 (8 * a + 3) = J 13 9 a) (b2 : I 13 0 (8 * b + 2) = J 13 8 b) (b3 : I 13 0 (8 * b + 3) = J 13 9 b) : RT l yL_shares cL_shares 3 ((some .boolean)) { frames := 0, cells := 0, slots := 0, locals := 0 } g z [.int (nI a), .int (nI b), .ref (g.2.2 13 0)] I P O (dp (some (.int (Jvm.Pilot.CHearingpayLaw_law_r6972_369389.b2 (decide (J 13 8 a = J 13 8 b ∨ J 13 8 a = J 13 9 b ∨ J 13 9 a = J 13 8 b ∨ J 13 9 a = J 13 9 b))))) I P) := by
  refine RT.of (own := RL) rfl (by decide +kernel) (Nat.le_of_ble_eq_true rfl) rfl (fun K C hl hg hR => ?_)
  subst hl
  subst hg
  refine g_aload_n (pc' := 1) C dL_shares_0 rfl rfl ?_
  refine g_bipush (v := nI 8) (pc' := 3) C dL_shares_1 (by decide) rfl ?_
  refine g_iload_n (pc' := 4) C dL_shares_3 rfl rfl ?_
  refine g_imulN (pc' := 5) C dL_shares_4 rfl ?_
  refine g_iconst (v := nI 2) (pc' := 6) C dL_shares_5 (by decide) rfl ?_
  refine g_iaddN (pc' := 7) C dL_shares_6 rfl ?_
  refine g_iald (pc' := 8) C (8 * a + 2) rfl (by show _ < 64; omega) dL_shares_7 (al13 rfl) rfl rfl rfl ?_
  rw [a2]
  refine g_aload_n (pc' := 9) C dL_shares_8 rfl rfl ?_
  refine g_bipush (v := nI 8) (pc' := 11) C dL_shares_9 (by decide) rfl ?_
  refine g_iload_n (pc' := 12) C dL_shares_11 rfl rfl ?_
  refine g_imulN (pc' := 13) C dL_shares_12 rfl ?_
  refine g_iconst (v := nI 2) (pc' := 14) C dL_shares_13 (by decide) rfl ?_
  refine g_iaddN (pc' := 15) C dL_shares_14 rfl ?_
  refine g_iald (pc' := 16) C (8 * b + 2) rfl (by show _ < 64; omega) dL_shares_15 (al13 rfl) rfl rfl rfl ?_
  rw [b2]
  refine g_icmp_eq (tgt := 76) (pc' := 19) C dL_shares_16 (by decide) rfl (fun c1 => ?_) (fun c1 => ?_)
  ·
    refine g_iconst (v := nI 1) (pc' := 77) C dL_shares_76 (by decide) rfl ?_
    refine g_goto (tgt := 81) C dL_shares_77 (by decide) ?_
    exact g_zret C hR dL_shares_81 rfl ⟨by simp [Jvm.Pilot.CHearingpayLaw_law_r6972_369389.b2, nI1', nI_0, c1], rfl, rfl⟩
  ·
    refine g_aload_n (pc' := 20) C dL_shares_19 rfl rfl ?_
    refine g_bipush (v := nI 8) (pc' := 22) C dL_shares_20 (by decide) rfl ?_
    refine g_iload_n (pc' := 23) C dL_shares_22 rfl rfl ?_
    refine g_imulN (pc' := 24) C dL_shares_23 rfl ?_
    refine g_iconst (v := nI 2) (pc' := 25) C dL_shares_24 (by decide) rfl ?_
    refine g_iaddN (pc' := 26) C dL_shares_25 rfl ?_
    refine g_iald (pc' := 27) C (8 * a + 2) rfl (by show _ < 64; omega) dL_shares_26 (al13 rfl) rfl rfl rfl ?_
    rw [a2]
    refine g_aload_n (pc' := 28) C dL_shares_27 rfl rfl ?_
    refine g_bipush (v := nI 8) (pc' := 30) C dL_shares_28 (by decide) rfl ?_
    refine g_iload_n (pc' := 31) C dL_shares_30 rfl rfl ?_
    refine g_imulN (pc' := 32) C dL_shares_31 rfl ?_
    refine g_iconst (v := nI 3) (pc' := 33) C dL_shares_32 (by decide) rfl ?_
    refine g_iaddN (pc' := 34) C dL_shares_33 rfl ?_
    refine g_iald (pc' := 35) C (8 * b + 3) rfl (by show _ < 64; omega) dL_shares_34 (al13 rfl) rfl rfl rfl ?_
    rw [b3]
    refine g_icmp_eq (tgt := 76) (pc' := 38) C dL_shares_35 (by decide) rfl (fun c2 => ?_) (fun c2 => ?_)
    ·
      refine g_iconst (v := nI 1) (pc' := 77) C dL_shares_76 (by decide) rfl ?_
      refine g_goto (tgt := 81) C dL_shares_77 (by decide) ?_
      exact g_zret C hR dL_shares_81 rfl ⟨by simp [Jvm.Pilot.CHearingpayLaw_law_r6972_369389.b2, nI1', nI_0, c1, c2], rfl, rfl⟩
    ·
      refine g_aload_n (pc' := 39) C dL_shares_38 rfl rfl ?_
      refine g_bipush (v := nI 8) (pc' := 41) C dL_shares_39 (by decide) rfl ?_
      refine g_iload_n (pc' := 42) C dL_shares_41 rfl rfl ?_
      refine g_imulN (pc' := 43) C dL_shares_42 rfl ?_
      refine g_iconst (v := nI 3) (pc' := 44) C dL_shares_43 (by decide) rfl ?_
      refine g_iaddN (pc' := 45) C dL_shares_44 rfl ?_
      refine g_iald (pc' := 46) C (8 * a + 3) rfl (by show _ < 64; omega) dL_shares_45 (al13 rfl) rfl rfl rfl ?_
      rw [a3]
      refine g_aload_n (pc' := 47) C dL_shares_46 rfl rfl ?_
      refine g_bipush (v := nI 8) (pc' := 49) C dL_shares_47 (by decide) rfl ?_
      refine g_iload_n (pc' := 50) C dL_shares_49 rfl rfl ?_
      refine g_imulN (pc' := 51) C dL_shares_50 rfl ?_
      refine g_iconst (v := nI 2) (pc' := 52) C dL_shares_51 (by decide) rfl ?_
      refine g_iaddN (pc' := 53) C dL_shares_52 rfl ?_
      refine g_iald (pc' := 54) C (8 * b + 2) rfl (by show _ < 64; omega) dL_shares_53 (al13 rfl) rfl rfl rfl ?_
      rw [b2]
      refine g_icmp_eq (tgt := 76) (pc' := 57) C dL_shares_54 (by decide) rfl (fun c3 => ?_) (fun c3 => ?_)
      ·
        refine g_iconst (v := nI 1) (pc' := 77) C dL_shares_76 (by decide) rfl ?_
        refine g_goto (tgt := 81) C dL_shares_77 (by decide) ?_
        exact g_zret C hR dL_shares_81 rfl ⟨by simp [Jvm.Pilot.CHearingpayLaw_law_r6972_369389.b2, nI1', nI_0, c1, c2, c3], rfl, rfl⟩
      ·
        refine g_aload_n (pc' := 58) C dL_shares_57 rfl rfl ?_
        refine g_bipush (v := nI 8) (pc' := 60) C dL_shares_58 (by decide) rfl ?_
        refine g_iload_n (pc' := 61) C dL_shares_60 rfl rfl ?_
        refine g_imulN (pc' := 62) C dL_shares_61 rfl ?_
        refine g_iconst (v := nI 3) (pc' := 63) C dL_shares_62 (by decide) rfl ?_
        refine g_iaddN (pc' := 64) C dL_shares_63 rfl ?_
        refine g_iald (pc' := 65) C (8 * a + 3) rfl (by show _ < 64; omega) dL_shares_64 (al13 rfl) rfl rfl rfl ?_
        rw [a3]
        refine g_aload_n (pc' := 66) C dL_shares_65 rfl rfl ?_
        refine g_bipush (v := nI 8) (pc' := 68) C dL_shares_66 (by decide) rfl ?_
        refine g_iload_n (pc' := 69) C dL_shares_68 rfl rfl ?_
        refine g_imulN (pc' := 70) C dL_shares_69 rfl ?_
        refine g_iconst (v := nI 3) (pc' := 71) C dL_shares_70 (by decide) rfl ?_
        refine g_iaddN (pc' := 72) C dL_shares_71 rfl ?_
        refine g_iald (pc' := 73) C (8 * b + 3) rfl (by show _ < 64; omega) dL_shares_72 (al13 rfl) rfl rfl rfl ?_
        rw [b3]
        refine g_icmp_ne (tgt := 80) (pc' := 76) C dL_shares_73 (by decide) rfl (fun c4 => ?_) (fun c4 => ?_)
        ·
          refine g_iconst (v := nI 0) (pc' := 81) C dL_shares_80 (by decide) rfl ?_
          exact g_zret C hR dL_shares_81 rfl ⟨by simp [Jvm.Pilot.CHearingpayLaw_law_r6972_369389.b2, nI1', nI_0, c1, c2, c3, c4], rfl, rfl⟩
        ·
          refine g_iconst (v := nI 1) (pc' := 77) C dL_shares_76 (by decide) rfl ?_
          refine g_goto (tgt := 81) C dL_shares_77 (by decide) ?_
          exact g_zret C hR dL_shares_81 rfl ⟨by simp [Jvm.Pilot.CHearingpayLaw_law_r6972_369389.b2, nI1', nI_0, c1, c2, c3, c4], rfl, rfl⟩
set_option maxRecDepth 20000 in
theorem w_fits {l : Launch} {g : wG} {z : wZ} {I : wI} {P : wP} {O : wO} {J : wI} {mt : Nat} {wh : Int32} (hm : mt < 8) (h4 : I 13 0 (8 * mt + 4) = J 13 10 mt + 1) (hl : J 13 10 mt = -1 ∨ ∃ d, d < 4 ∧ J 13 10 mt = nI d) (hw5 : ∀ i, i < 4 → I 13 5 i = J 13 2 i) (hwh : wh = -1 ∨ ∃ s, s < 4 ∧ wh = nI s) : RT l yL_fits cL_fits 5 ((some .boolean)) { frames := 0, cells := 0, slots := 0, locals := 0 } g z [.int (nI mt), .int wh, .ref (g.2.2 13 0), .ref (g.2.2 13 5)] I P O (dp (some (.int (b2 (mFit J mt wh)))) I P) := by
  refine RT.of (own := RL) rfl (by decide +kernel) (Nat.le_of_ble_eq_true rfl) rfl (fun K C hl hg hR => ?_)
  subst hl
  subst hg
  have hl1 : 0 ≤ J 13 10 mt → ¬ J 13 10 mt = -1 := fun q e => by rw [e] at q; exact absurd q (by decide)
  have hl2 : ¬ 0 ≤ J 13 10 mt → J 13 10 mt = -1 := fun q => hl.resolve_right (fun ⟨d, hd, e⟩ => q (by rw [e]; exact nI_pos' (by omega)))
  rcases hwh with rfl | ⟨s, hs, rfl⟩
  ·
    refine g_aload_n (pc' := 1) C dL_fits_0 rfl rfl ?_
    refine g_bipush (v := nI 8) (pc' := 3) C dL_fits_1 (by decide) rfl ?_
    refine g_iload_n (pc' := 4) C dL_fits_3 rfl rfl ?_
    refine g_imulN (pc' := 5) C dL_fits_4 rfl ?_
    refine g_iconst (v := nI 4) (pc' := 6) C dL_fits_5 (by decide) rfl ?_
    refine g_iaddN (pc' := 7) C dL_fits_6 rfl ?_
    refine g_iald (pc' := 8) C (8 * mt + 4) rfl (by show _ < 64; omega) dL_fits_7 (al13 rfl) rfl rfl rfl ?_
    rw [h4]
    refine g_iconst (v := nI 1) (pc' := 9) C dL_fits_8 (by decide) rfl ?_
    refine g_isub (pc' := 10) C dL_fits_9 rfl ?_
    rw [nI_s1]
    refine g_istore (pc' := 12) C dL_fits_10 rfl rfl ?_
    refine g_iload (pc' := 14) C dL_fits_12 rfl rfl ?_
    refine g_if_ge (tgt := 29) (pc' := 17) C dL_fits_14 (by decide) rfl (fun c1 => ?_) (fun c1 => ?_)
    ·
      have c1 := hl1 c1
      refine g_iload_n (pc' := 30) C dL_fits_29 rfl rfl ?_
      refine g_if_lt (tgt := 49) (pc' := 33) C dL_fits_30 (by decide) rfl (fun c2 => ?_) (fun c2 => absurd (by decide) c2)
      refine g_iconst (v := nI 0) (pc' := 50) C dL_fits_49 (by decide) rfl ?_
      exact g_zret C hR dL_fits_50 rfl ⟨by simp [b2, nI1', nI_0, mFit, c1, c2], rfl, rfl⟩
    ·
      have c1 := hl2 c1
      refine g_iload_n (pc' := 18) C dL_fits_17 rfl rfl ?_
      refine g_if_ge (tgt := 25) (pc' := 21) C dL_fits_18 (by decide) rfl (fun c3 => absurd c3 (by decide)) (fun c3 => ?_)
      refine g_iconst (v := nI 1) (pc' := 22) C dL_fits_21 (by decide) rfl ?_
      refine g_goto (tgt := 50) C dL_fits_22 (by decide) ?_
      exact g_zret C hR dL_fits_50 rfl ⟨by simp [b2, nI1', nI_0, mFit, c1, c3], rfl, rfl⟩
  · have hsn : ¬ nI s = -1 := nI_nm1 (by omega)
    have hsc : (nI s).toNatClampNeg = s := nI_clamp (by omega)
    refine g_aload_n (pc' := 1) C dL_fits_0 rfl rfl ?_
    refine g_bipush (v := nI 8) (pc' := 3) C dL_fits_1 (by decide) rfl ?_
    refine g_iload_n (pc' := 4) C dL_fits_3 rfl rfl ?_
    refine g_imulN (pc' := 5) C dL_fits_4 rfl ?_
    refine g_iconst (v := nI 4) (pc' := 6) C dL_fits_5 (by decide) rfl ?_
    refine g_iaddN (pc' := 7) C dL_fits_6 rfl ?_
    refine g_iald (pc' := 8) C (8 * mt + 4) rfl (by show _ < 64; omega) dL_fits_7 (al13 rfl) rfl rfl rfl ?_
    rw [h4]
    refine g_iconst (v := nI 1) (pc' := 9) C dL_fits_8 (by decide) rfl ?_
    refine g_isub (pc' := 10) C dL_fits_9 rfl ?_
    rw [nI_s1]
    refine g_istore (pc' := 12) C dL_fits_10 rfl rfl ?_
    refine g_iload (pc' := 14) C dL_fits_12 rfl rfl ?_
    refine g_if_ge (tgt := 29) (pc' := 17) C dL_fits_14 (by decide) rfl (fun c1 => ?_) (fun c1 => ?_)
    ·
      have c1 := hl1 c1
      refine g_iload_n (pc' := 30) C dL_fits_29 rfl rfl ?_
      refine g_if_lt (tgt := 49) (pc' := 33) C dL_fits_30 (by decide) rfl (fun c2 => absurd c2 (nI_pos (by omega))) (fun c2 => ?_)
      refine g_aload_n (pc' := 34) C dL_fits_33 rfl rfl ?_
      refine g_iload_n (pc' := 35) C dL_fits_34 rfl rfl ?_
      refine g_iald (pc' := 36) C (s) rfl (by show s < 14; omega) dL_fits_35 (al13 rfl) rfl rfl rfl ?_
      rw [hw5 s hs]
      refine g_iload (pc' := 38) C dL_fits_36 rfl rfl ?_
      refine g_ishr (pc' := 39) C dL_fits_38 rfl ?_
      refine g_iconst (v := nI 1) (pc' := 40) C dL_fits_39 (by decide) rfl ?_
      refine g_iand (pc' := 41) C dL_fits_40 rfl ?_
      refine g_iconst (v := nI 1) (pc' := 42) C dL_fits_41 (by decide) rfl ?_
      refine g_icmp_ne (tgt := 49) (pc' := 45) C dL_fits_42 (by decide) rfl (fun c3 => ?_) (fun c3 => ?_)
      ·
        refine g_iconst (v := nI 0) (pc' := 50) C dL_fits_49 (by decide) rfl ?_
        exact g_zret C hR dL_fits_50 rfl ⟨by simp [b2, nI1', nI_0, mFit, hsn, hsc, c1, c2, c3] <;> (first | (intro; simp_all [nI1']) | simp_all [nI1']), rfl, rfl⟩
      ·
        refine g_iconst (v := nI 1) (pc' := 46) C dL_fits_45 (by decide) rfl ?_
        refine g_goto (tgt := 50) C dL_fits_46 (by decide) ?_
        exact g_zret C hR dL_fits_50 rfl ⟨by simp [b2, nI1', nI_0, mFit, hsn, hsc, c1, c2, c3] <;> (first | (intro; simp_all [nI1']) | simp_all [nI1']), rfl, rfl⟩
    ·
      have c1 := hl2 c1
      refine g_iload_n (pc' := 18) C dL_fits_17 rfl rfl ?_
      refine g_if_ge (tgt := 25) (pc' := 21) C dL_fits_18 (by decide) rfl (fun c4 => ?_) (fun c4 => absurd (nI_pos' (by omega)) c4)
      refine g_iconst (v := nI 0) (pc' := 26) C dL_fits_25 (by decide) rfl ?_
      refine g_goto (tgt := 50) C dL_fits_26 (by decide) ?_
      exact g_zret C hR dL_fits_50 rfl ⟨by simp [b2, nI1', nI_0, mFit, hsn, hsc, c1, c4] <;> (first | (intro; simp_all [nI1']) | simp_all [nI1']), rfl, rfl⟩
end WLleaf
