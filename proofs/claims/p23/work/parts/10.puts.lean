section WPut
set_option maxRecDepth 20000 in
theorem l_X3_putS {K : wK} {z : wZ} {O : wO} {post : Option Value → wI → wP → Prop} {h i m hr : Nat} {r x f now : Int32} (C : Cx K cX3_put RX3 7 (none) { frames := 3, cells := 0, slots := 0, locals := 69 } z) (hR : Rx K z O post) (hh : wAl z 3 h) (hi : wAl z 1 i) (hm2 : wAl z 2 m) (hr4 : hr ≤ 4) : ∀ (n k : Nat) (x6 : Int32) (I : wI) (P : wP), XI z I P → P 3 h 1 = some m → I 3 h 2 = nI hr → I 0 0 6 = now → x6 = nI k → k + n = hr → post none (putB (ptL i m h f now n k (I, P)).1 m h) (ptL i m h f now n k (I, P)).2 → G K z I P O 0 0 18 [(0, .ref ((Kg K).2.2 0 0)), (1, .ref ((Kg K).2.2 3 h)), (2, .int r), (3, .int x), (4, .int f), (5, .ref ((Kg K).2.2 1 i)), (6, .int x6)] [] := by
  intro n
  induction n with
  | zero =>
    intro k x6 I P X hm hr hnow ex6 hk hpost
    subst ex6
    refine g_iload (pc' := 20) C dX3_put_18 rfl rfl ?_
    refine g_aload_n (pc' := 21) C dX3_put_20 rfl rfl ?_
    refine f_X3_167 (pc' := 24) C dX3_put_21 (by first | assumption | exact rfl | exact al13 rfl | exact Nat.le_of_ble_eq_true rfl) rfl ?_
    refine g_icmp_ge (tgt := 77) (pc' := 27) C dX3_put_24 (by decide) rfl (fun c1 => ?_) (fun c1 => absurd (by rw [hr, show k = _ by omega]; exact Int32.le_refl _) c1)
    refine g_aload_n (pc' := 78) C dX3_put_77 rfl rfl ?_
    refine f_X3_161 (pc' := 81) C hm dX3_put_78 (by first | assumption | exact rfl | exact al13 rfl | exact Nat.le_of_ble_eq_true rfl) rfl ?_
    refine g_dup (pc' := 82) C dX3_put_81 rfl rfl ?_
    refine f_X3_85 (pc' := 85) C dX3_put_82 (by first | assumption | exact rfl | exact al13 rfl | exact Nat.le_of_ble_eq_true rfl) rfl ?_
    refine g_aload_n (pc' := 86) C dX3_put_85 rfl rfl ?_
    refine k_X3_248 (pc' := 89) C (m_X0_charged hh) dX3_put_86 (by first | assumption | exact rfl | exact al13 rfl | exact Nat.le_of_ble_eq_true rfl) ⟨⟨Nat.le_of_ble_eq_true rfl, Nat.le_of_ble_eq_true rfl⟩, rfl, rfl⟩ (Nat.le_of_ble_eq_true rfl) ⟨Nat.zero_le _, Nat.zero_le _⟩ rfl ?_
    refine g_isub (pc' := 90) C dX3_put_89 rfl ?_
    refine p_X3_85 (pc' := 93) C dX3_put_90 (by first | assumption | exact rfl | exact al13 rfl | exact Nat.le_of_ble_eq_true rfl) rfl ?_
    exact g_vret C hR dX3_put_93 hpost
  | succ n ih =>
    intro k x6 I P X hm hr hnow ex6 hk hpost
    subst ex6
    refine g_iload (pc' := 20) C dX3_put_18 rfl rfl ?_
    refine g_aload_n (pc' := 21) C dX3_put_20 rfl rfl ?_
    refine f_X3_167 (pc' := 24) C dX3_put_21 (by first | assumption | exact rfl | exact al13 rfl | exact Nat.le_of_ble_eq_true rfl) rfl ?_
    refine g_icmp_ge (tgt := 77) (pc' := 27) C dX3_put_24 (by decide) rfl (fun c1 => absurd c1 (by rw [hr]; exact nI_ge (by omega) (by omega))) (fun c1 => ?_)
    refine g_iload (pc' := 29) C dX3_put_27 rfl rfl ?_
    refine g_aload_n (pc' := 30) C dX3_put_29 rfl rfl ?_
    refine f_X3_268 (pc' := 33) C dX3_put_30 (by first | assumption | exact rfl | exact al13 rfl | exact Nat.le_of_ble_eq_true rfl) rfl ?_
    refine g_alen (pc' := 34) (v := 4) (t0 := 0) C dX3_put_33 (by first | assumption | exact rfl | exact al13 rfl | exact Nat.le_of_ble_eq_true rfl) rfl rfl rfl rfl ?_
    refine g_icmp_ge (tgt := 77) (pc' := 37) C dX3_put_34 (by decide) rfl (fun c2 => absurd c2 (nI_ge (a := k) (b := 4) (by omega) (by decide))) (fun c2 => ?_)
    refine g_aload_n (pc' := 38) C dX3_put_37 rfl rfl ?_
    refine f_X3_268 (pc' := 41) C dX3_put_38 (by first | assumption | exact rfl | exact al13 rfl | exact Nat.le_of_ble_eq_true rfl) rfl ?_
    refine g_iload (pc' := 43) C dX3_put_41 rfl rfl ?_
    refine g_aload (pc' := 45) C dX3_put_43 rfl rfl ?_
    refine g_ifnonnull (tgt := 52) C dX3_put_45 (by decide) ?_
    refine g_aload (pc' := 54) C dX3_put_52 rfl rfl ?_
    refine g_iload (pc' := 56) C dX3_put_54 rfl rfl ?_
    refine g_iload (pc' := 58) C dX3_put_56 rfl rfl ?_
    refine g_iadd (pc' := 59) C dX3_put_58 rfl ?_
    refine g_aload_n (pc' := 60) C dX3_put_59 rfl rfl ?_
    refine f_X3_38 (pc' := 63) C dX3_put_60 (by first | assumption | exact rfl | exact al13 rfl | exact Nat.le_of_ble_eq_true rfl) rfl ?_
    refine g_aload_n (pc' := 64) C dX3_put_63 rfl rfl ?_
    refine f_X3_161 (pc' := 67) C hm dX3_put_64 (by first | assumption | exact rfl | exact al13 rfl | exact Nat.le_of_ble_eq_true rfl) rfl ?_
    refine k_X3_272 (pc' := 70) C (m_X1_take hi hm2 (fun q hq => X.h9 hi (rg_lt _) hq)) dX3_put_67 (by first | assumption | exact rfl | exact al13 rfl | exact Nat.le_of_ble_eq_true rfl) ⟨⟨Nat.le_of_ble_eq_true rfl, Nat.le_of_ble_eq_true rfl⟩, rfl, rfl⟩ (Nat.le_of_ble_eq_true rfl) ⟨Nat.zero_le _, Nat.zero_le _⟩ rfl ?_
    refine g_iast (pc' := 71) C (k) rfl (by omega) dX3_put_70 (by first | assumption | exact rfl | exact al13 rfl | exact Nat.le_of_ble_eq_true rfl) (fun _ => rfl) rfl rfl ?_
    refine g_iinc (pc' := 74) C dX3_put_71 rfl (ii1 _) rfl rfl ?_
    refine g_goto (tgt := 18) C dX3_put_74 (by decide) ?_
    refine G_pick [0, 1, 2, 3, 4, 5, 6] rfl (ih (k + 1) _ _ _ (XI.upI X.tk _ (by omega) (by omega) (by omega)) (by rw [tkP_off (by decide)]; exact hm) (by rw [upI_at, if_neg (by omega), tkI_off (by omega)]; exact hr) (by rw [upI_at, if_neg (by omega), tkI_off (by omega)]; exact hnow) (nI_1 k) (by omega) ?_)
    rw [hnow]
    exact hpost
set_option maxRecDepth 20000 in
theorem m_X3_putS {l : Launch} {g : wG} {z : wZ} {I : wI} {P : wP} {O : wO} {h i : Nat} {r x f : Int32} (X : XI z I P) (hh : wAl z 3 h) (hj : x = nI i) (hi : wAl z 1 i) : RT l yX3_put cX3_put 7 (none) { frames := 3, cells := 0, slots := 0, locals := 69 } g z [.ref (g.2.2 0 0), .ref (g.2.2 3 h), .int r, .int x, .int f] I P O (dp (none) ((putS I P h i r x f).1) ((putS I P h i r x f).2)) := by
  refine RT.of (own := RX3) rfl (by decide +kernel) (Nat.le_of_ble_eq_true rfl) rfl (fun K C hl hg hR => ?_)
  subst hl
  subst hg
  refine g_aload_n (pc' := 1) C dX3_put_0 rfl rfl ?_
  refine g_iload_n (pc' := 2) C dX3_put_1 rfl rfl ?_
  refine g_iload_n (pc' := 3) C dX3_put_2 rfl rfl ?_
  refine g_iload (pc' := 5) C dX3_put_3 rfl rfl ?_
  refine k_X3_264 (pc' := 8) C (m_X0_settleAt hh) dX3_put_5 (by first | assumption | exact rfl | exact al13 rfl | exact Nat.le_of_ble_eq_true rfl) ⟨⟨Nat.le_of_ble_eq_true rfl, Nat.le_of_ble_eq_true rfl⟩, rfl, rfl⟩ (Nat.le_of_ble_eq_true rfl) ⟨Nat.zero_le _, Nat.zero_le _⟩ rfl ?_
  refine g_aload_n (pc' := 9) C dX3_put_8 rfl rfl ?_
  refine g_iload_n (pc' := 10) C dX3_put_9 rfl rfl ?_
  refine k_X3_42 (pc' := 13) C (m_X3_interpreterAtS hj hi (X.2.2.2.2.2.2.1 i hi)) dX3_put_10 (by first | assumption | exact rfl | exact al13 rfl | exact Nat.le_of_ble_eq_true rfl) ⟨⟨Nat.le_of_ble_eq_true rfl, Nat.le_of_ble_eq_true rfl⟩, rfl, rfl⟩ (Nat.le_of_ble_eq_true rfl) ⟨Nat.zero_le _, Nat.zero_le _⟩ rfl ?_
  refine g_astore (pc' := 15) C dX3_put_13 rfl rfl ?_
  refine g_iconst (v := 0) (pc' := 16) C dX3_put_15 (by decide) rfl ?_
  refine g_istore (pc' := 18) C dX3_put_16 rfl rfl ?_
  exact l_X3_putS C hR hh hi (X.hm2 hh) (X.hr4 hh) (hrN I h) 0 0 _ P X.sA (X.hm hh) (by rw [sA_off (by omega)]; exact X.hr hh) (sA_off (by omega)) nI_0.symm (by omega) ⟨rfl, rfl, rfl⟩
set_option maxRecDepth 20000 in
theorem l_X3_putN {K : wK} {z : wZ} {O : wO} {post : Option Value → wI → wP → Prop} {h m hr : Nat} {r x f : Int32} {P : wP} (C : Cx K cX3_put RX3 7 (none) { frames := 3, cells := 0, slots := 0, locals := 69 } z) (hR : Rx K z O post) (hh : wAl z 3 h) (hm : P 3 h 1 = some m) (hm2 : wAl z 2 m) (hr4 : hr ≤ 4) : ∀ (n k : Nat) (x6 : Int32) (I : wI), XI z I P → I 3 h 2 = nI hr → x6 = nI k → k + n = hr → post none (putB (p0L h n k I) m h) P → G K z I P O 0 0 18 [(0, .ref ((Kg K).2.2 0 0)), (1, .ref ((Kg K).2.2 3 h)), (2, .int r), (3, .int x), (4, .int f), (5, .null), (6, .int x6)] [] := by
  intro n
  induction n with
  | zero =>
    intro k x6 I X hr ex6 hk hpost
    subst ex6
    refine g_iload (pc' := 20) C dX3_put_18 rfl rfl ?_
    refine g_aload_n (pc' := 21) C dX3_put_20 rfl rfl ?_
    refine f_X3_167 (pc' := 24) C dX3_put_21 (by first | assumption | exact rfl | exact al13 rfl | exact Nat.le_of_ble_eq_true rfl) rfl ?_
    refine g_icmp_ge (tgt := 77) (pc' := 27) C dX3_put_24 (by decide) rfl (fun c1 => ?_) (fun c1 => absurd (by rw [hr, show k = _ by omega]; exact Int32.le_refl _) c1)
    refine g_aload_n (pc' := 78) C dX3_put_77 rfl rfl ?_
    refine f_X3_161 (pc' := 81) C hm dX3_put_78 (by first | assumption | exact rfl | exact al13 rfl | exact Nat.le_of_ble_eq_true rfl) rfl ?_
    refine g_dup (pc' := 82) C dX3_put_81 rfl rfl ?_
    refine f_X3_85 (pc' := 85) C dX3_put_82 (by first | assumption | exact rfl | exact al13 rfl | exact Nat.le_of_ble_eq_true rfl) rfl ?_
    refine g_aload_n (pc' := 86) C dX3_put_85 rfl rfl ?_
    refine k_X3_248 (pc' := 89) C (m_X0_charged hh) dX3_put_86 (by first | assumption | exact rfl | exact al13 rfl | exact Nat.le_of_ble_eq_true rfl) ⟨⟨Nat.le_of_ble_eq_true rfl, Nat.le_of_ble_eq_true rfl⟩, rfl, rfl⟩ (Nat.le_of_ble_eq_true rfl) ⟨Nat.zero_le _, Nat.zero_le _⟩ rfl ?_
    refine g_isub (pc' := 90) C dX3_put_89 rfl ?_
    refine p_X3_85 (pc' := 93) C dX3_put_90 (by first | assumption | exact rfl | exact al13 rfl | exact Nat.le_of_ble_eq_true rfl) rfl ?_
    exact g_vret C hR dX3_put_93 hpost
  | succ n ih =>
    intro k x6 I X hr ex6 hk hpost
    subst ex6
    refine g_iload (pc' := 20) C dX3_put_18 rfl rfl ?_
    refine g_aload_n (pc' := 21) C dX3_put_20 rfl rfl ?_
    refine f_X3_167 (pc' := 24) C dX3_put_21 (by first | assumption | exact rfl | exact al13 rfl | exact Nat.le_of_ble_eq_true rfl) rfl ?_
    refine g_icmp_ge (tgt := 77) (pc' := 27) C dX3_put_24 (by decide) rfl (fun c1 => absurd c1 (by rw [hr]; exact nI_ge (by omega) (by omega))) (fun c1 => ?_)
    refine g_iload (pc' := 29) C dX3_put_27 rfl rfl ?_
    refine g_aload_n (pc' := 30) C dX3_put_29 rfl rfl ?_
    refine f_X3_268 (pc' := 33) C dX3_put_30 (by first | assumption | exact rfl | exact al13 rfl | exact Nat.le_of_ble_eq_true rfl) rfl ?_
    refine g_alen (pc' := 34) (v := 4) (t0 := 0) C dX3_put_33 (by first | assumption | exact rfl | exact al13 rfl | exact Nat.le_of_ble_eq_true rfl) rfl rfl rfl rfl ?_
    refine g_icmp_ge (tgt := 77) (pc' := 37) C dX3_put_34 (by decide) rfl (fun c2 => absurd c2 (nI_ge (a := k) (b := 4) (by omega) (by decide))) (fun c2 => ?_)
    refine g_aload_n (pc' := 38) C dX3_put_37 rfl rfl ?_
    refine f_X3_268 (pc' := 41) C dX3_put_38 (by first | assumption | exact rfl | exact al13 rfl | exact Nat.le_of_ble_eq_true rfl) rfl ?_
    refine g_iload (pc' := 43) C dX3_put_41 rfl rfl ?_
    refine g_aloadN (pc' := 45) C dX3_put_43 rfl rfl ?_
    refine g_ifnonnullN (pc' := 48) C dX3_put_45 rfl ?_
    refine g_iconst (v := 0) (pc' := 49) C dX3_put_48 (by decide) rfl ?_
    refine g_goto (tgt := 70) C dX3_put_49 (by decide) ?_
    refine g_iast (pc' := 71) C (k) rfl (by omega) dX3_put_70 (by first | assumption | exact rfl | exact al13 rfl | exact Nat.le_of_ble_eq_true rfl) (fun _ => rfl) rfl rfl ?_
    refine g_iinc (pc' := 74) C dX3_put_71 rfl (ii1 _) rfl rfl ?_
    refine g_goto (tgt := 18) C dX3_put_74 (by decide) ?_
    exact G_pick [0, 1, 2, 3, 4, 5, 6] rfl (ih (k + 1) _ _ (XI.upI X _ (by omega) (by omega) (by omega)) (by rw [upI_at, if_neg (by omega)]; exact hr) (nI_1 k) (by omega) hpost)
set_option maxRecDepth 20000 in
theorem m_X3_putN {l : Launch} {g : wG} {z : wZ} {I : wI} {P : wP} {O : wO} {h : Nat} {r x f : Int32} (X : XI z I P) (hh : wAl z 3 h) (hx : x < 0 ∨ 4 ≤ x) : RT l yX3_put cX3_put 7 (none) { frames := 3, cells := 0, slots := 0, locals := 69 } g z [.ref (g.2.2 0 0), .ref (g.2.2 3 h), .int r, .int x, .int f] I P O (dp (none) (putN I P h r x f) (P)) := by
  refine RT.of (own := RX3) rfl (by decide +kernel) (Nat.le_of_ble_eq_true rfl) rfl (fun K C hl hg hR => ?_)
  subst hl
  subst hg
  refine g_aload_n (pc' := 1) C dX3_put_0 rfl rfl ?_
  refine g_iload_n (pc' := 2) C dX3_put_1 rfl rfl ?_
  refine g_iload_n (pc' := 3) C dX3_put_2 rfl rfl ?_
  refine g_iload (pc' := 5) C dX3_put_3 rfl rfl ?_
  refine k_X3_264 (pc' := 8) C (m_X0_settleAt hh) dX3_put_5 (by first | assumption | exact rfl | exact al13 rfl | exact Nat.le_of_ble_eq_true rfl) ⟨⟨Nat.le_of_ble_eq_true rfl, Nat.le_of_ble_eq_true rfl⟩, rfl, rfl⟩ (Nat.le_of_ble_eq_true rfl) ⟨Nat.zero_le _, Nat.zero_le _⟩ rfl ?_
  refine g_aload_n (pc' := 9) C dX3_put_8 rfl rfl ?_
  refine g_iload_n (pc' := 10) C dX3_put_9 rfl rfl ?_
  refine k_X3_42 (pc' := 13) C (m_X3_interpreterAtN hx) dX3_put_10 (by first | assumption | exact rfl | exact al13 rfl | exact Nat.le_of_ble_eq_true rfl) ⟨⟨Nat.le_of_ble_eq_true rfl, Nat.le_of_ble_eq_true rfl⟩, rfl, rfl⟩ (Nat.le_of_ble_eq_true rfl) ⟨Nat.zero_le _, Nat.zero_le _⟩ rfl ?_
  refine g_astoreN (pc' := 15) C dX3_put_13 rfl rfl ?_
  refine g_iconst (v := 0) (pc' := 16) C dX3_put_15 (by decide) rfl ?_
  refine g_istore (pc' := 18) C dX3_put_16 rfl rfl ?_
  exact l_X3_putN C hR hh (X.hm hh) (X.hm2 hh) (X.hr4 hh) (hrN I h) 0 0 _ X.sA (by rw [sA_off (by omega)]; exact X.hr hh) nI_0.symm (by omega) ⟨rfl, rfl, rfl⟩
set_option maxRecDepth 20000 in
theorem l_X3_dropAllOf {K : wK} {z : wZ} {O : wO} {post : Option Value → wI → wP → Prop} {m : Nat} (C : Cx K cX3_dropAllOf RX3 5 ((some .int)) { frames := 3, cells := 0, slots := 0, locals := 67 } z) (hR : Rx K z O post) (hm2 : wAl z 2 m) : ∀ (n h : Nat) (x2 x3 : Int32) (I : wI) (P : wP), XI z I P → x3 = nI h → h + n = z.2 → post (some (.int (daL m n h (I, P, x2)).2.2)) (daL m n h (I, P, x2)).1 (daL m n h (I, P, x2)).2.1 → G K z I P O 0 0 4 [(0, .ref ((Kg K).2.2 0 0)), (1, .ref ((Kg K).2.2 2 m)), (2, .int x2), (3, .int x3)] [] := by
  intro n
  induction n with
  | zero =>
    intro h x2 x3 I P X ex3 hk hpost
    refine g_iload_n (pc' := 5) C dX3_dropAllOf_4 rfl rfl ?_
    refine g_aload_n (pc' := 6) C dX3_dropAllOf_5 rfl rfl ?_
    refine f_X3_35 (pc' := 9) C dX3_dropAllOf_6 (by first | assumption | exact rfl | exact al13 rfl | exact Nat.le_of_ble_eq_true rfl) rfl ?_
    refine g_icmp_ge (tgt := 71) (pc' := 12) C dX3_dropAllOf_9 (by decide) rfl (fun c1 => ?_) (fun c1 => absurd (by rw [ex3, X.2.2.2.1, show h = z.2 by omega]; exact Int32.le_refl _) c1)
    refine g_iload_n (pc' := 72) C dX3_dropAllOf_71 rfl rfl ?_
    exact g_iret C hR dX3_dropAllOf_72 hpost
  | succ n ih =>
    intro h x2 x3 I P X ex3 hk hpost
    have hhz : h < z.2 := by omega
    have hh : wAl z 3 h := hhz
    have hmx := X.hm2 hh
    refine g_iload_n (pc' := 5) C dX3_dropAllOf_4 rfl rfl ?_
    refine g_aload_n (pc' := 6) C dX3_dropAllOf_5 rfl rfl ?_
    refine f_X3_35 (pc' := 9) C dX3_dropAllOf_6 (by first | assumption | exact rfl | exact al13 rfl | exact Nat.le_of_ble_eq_true rfl) rfl ?_
    refine g_icmp_ge (tgt := 71) (pc' := 12) C dX3_dropAllOf_9 (by decide) rfl (fun c1 => absurd c1 (by rw [ex3, X.2.2.2.1]; exact nI_ge hhz (by have := X.2.1; omega))) (fun c1 => ?_)
    refine g_aload_n (pc' := 13) C dX3_dropAllOf_12 rfl rfl ?_
    refine g_iload_n (pc' := 14) C dX3_dropAllOf_13 rfl rfl ?_
    refine k_X3_149 (pc' := 17) C (m_X3_hearingAtS X ex3 hhz) dX3_dropAllOf_14 (by first | assumption | exact rfl | exact al13 rfl | exact Nat.le_of_ble_eq_true rfl) ⟨⟨Nat.le_of_ble_eq_true rfl, Nat.le_of_ble_eq_true rfl⟩, rfl, rfl⟩ (Nat.le_of_ble_eq_true rfl) ⟨Nat.zero_le _, Nat.zero_le _⟩ rfl ?_
    refine g_astore (pc' := 19) C dX3_dropAllOf_17 rfl rfl ?_
    refine g_aload (pc' := 21) C dX3_dropAllOf_19 rfl rfl ?_
    refine g_ifnull (pc' := 24) C dX3_dropAllOf_21 rfl ?_
    refine g_aload (pc' := 26) C dX3_dropAllOf_24 rfl rfl ?_
    refine f_X3_161 (pc' := 29) C (X.hm hh) dX3_dropAllOf_26 (by first | assumption | exact rfl | exact al13 rfl | exact Nat.le_of_ble_eq_true rfl) rfl ?_
    refine g_aload_n (pc' := 30) C dX3_dropAllOf_29 rfl rfl ?_
    refine g_acmp_ne2 (tgt := 65) (pc' := 33) C (by first | assumption | exact rfl | exact al13 rfl | exact Nat.le_of_ble_eq_true rfl) (by first | assumption | exact rfl | exact al13 rfl | exact Nat.le_of_ble_eq_true rfl) dX3_dropAllOf_30 (by decide) rfl (fun c2 => ?_) (fun c2 => ?_)
    ·
      refine g_iinc (pc' := 68) C dX3_dropAllOf_65 rfl (ii1 _) rfl rfl ?_
      refine g_goto (tgt := 4) C dX3_dropAllOf_68 (by decide) ?_
      refine G_pick [0, 1, 2, 3] rfl (ih (h + 1) _ _ _ _ (by first | exact X | exact XI.upI (X.lvR hh) _ (by omega) (by omega) (by omega) | exact XI.upI X _ (by omega) (by omega) (by omega)) (by rw [ex3]; exact nI_1 h) (by omega) ?_)
      try simp [c3] at c4
      simpa [daL, daS, c1, c2] using hpost
    ·
      refine g_aload (pc' := 35) C dX3_dropAllOf_33 rfl rfl ?_
      refine f_X3_178 (pc' := 38) C dX3_dropAllOf_35 (by first | assumption | exact rfl | exact al13 rfl | exact Nat.le_of_ble_eq_true rfl) rfl ?_
      refine g_if_ne (tgt := 65) (pc' := 41) C dX3_dropAllOf_38 (by decide) rfl (fun c3 => ?_) (fun c3 => ?_)
      ·
        refine g_iinc (pc' := 68) C dX3_dropAllOf_65 rfl (ii1 _) rfl rfl ?_
        refine g_goto (tgt := 4) C dX3_dropAllOf_68 (by decide) ?_
        refine G_pick [0, 1, 2, 3] rfl (ih (h + 1) _ _ _ _ (by first | exact X | exact XI.upI (X.lvR hh) _ (by omega) (by omega) (by omega) | exact XI.upI X _ (by omega) (by omega) (by omega)) (by rw [ex3]; exact nI_1 h) (by omega) ?_)
        try simp [c3] at c4
        simpa [daL, daS, c1, c2, c3] using hpost
      ·
        refine g_aload_n (pc' := 42) C dX3_dropAllOf_41 rfl rfl ?_
        refine g_aload (pc' := 44) C dX3_dropAllOf_42 rfl rfl ?_
        refine k_X3_157 (pc' := 47) C (m_X3_isToBegin hh) dX3_dropAllOf_44 (by first | assumption | exact rfl | exact al13 rfl | exact Nat.le_of_ble_eq_true rfl) ⟨⟨Nat.le_of_ble_eq_true rfl, Nat.le_of_ble_eq_true rfl⟩, rfl, rfl⟩ (Nat.le_of_ble_eq_true rfl) ⟨Nat.zero_le _, Nat.zero_le _⟩ rfl ?_
        refine g_if_eq (tgt := 56) (pc' := 50) C dX3_dropAllOf_47 (by decide) rfl (fun c4 => ?_) (fun c4 => ?_)
        ·
          have c4 := b2_0.mp c4
          refine g_aload (pc' := 58) C dX3_dropAllOf_56 rfl rfl ?_
          refine g_iconst (v := 3) (pc' := 59) C dX3_dropAllOf_58 (by decide) rfl ?_
          refine p_X3_178 (pc' := 62) C dX3_dropAllOf_59 (by first | assumption | exact rfl | exact al13 rfl | exact Nat.le_of_ble_eq_true rfl) rfl ?_
          refine g_iinc (pc' := 65) C dX3_dropAllOf_62 rfl (ii1 _) rfl rfl ?_
          refine g_iinc (pc' := 68) C dX3_dropAllOf_65 rfl (ii1 _) rfl rfl ?_
          refine g_goto (tgt := 4) C dX3_dropAllOf_68 (by decide) ?_
          refine G_pick [0, 1, 2, 3] rfl (ih (h + 1) _ _ _ _ (by first | exact X | exact XI.upI (X.lvR hh) _ (by omega) (by omega) (by omega) | exact XI.upI X _ (by omega) (by omega) (by omega)) (by rw [ex3]; exact nI_1 h) (by omega) ?_)
          try simp [c3] at c4
          simpa [daL, daS, c1, c2, c3, c4] using hpost
        ·
          have c4 := b2_1.mp c4
          refine g_aload_n (pc' := 51) C dX3_dropAllOf_50 rfl rfl ?_
          refine g_aload (pc' := 53) C dX3_dropAllOf_51 rfl rfl ?_
          refine k_X3_170 (pc' := 56) C (m_X3_leave X hh) dX3_dropAllOf_53 (by first | assumption | exact rfl | exact al13 rfl | exact Nat.le_of_ble_eq_true rfl) ⟨⟨Nat.le_of_ble_eq_true rfl, Nat.le_of_ble_eq_true rfl⟩, rfl, rfl⟩ (Nat.le_of_ble_eq_true rfl) ⟨Nat.zero_le _, Nat.zero_le _⟩ rfl ?_
          refine g_aload (pc' := 58) C dX3_dropAllOf_56 rfl rfl ?_
          refine g_iconst (v := 3) (pc' := 59) C dX3_dropAllOf_58 (by decide) rfl ?_
          refine p_X3_178 (pc' := 62) C dX3_dropAllOf_59 (by first | assumption | exact rfl | exact al13 rfl | exact Nat.le_of_ble_eq_true rfl) rfl ?_
          refine g_iinc (pc' := 65) C dX3_dropAllOf_62 rfl (ii1 _) rfl rfl ?_
          refine g_iinc (pc' := 68) C dX3_dropAllOf_65 rfl (ii1 _) rfl rfl ?_
          refine g_goto (tgt := 4) C dX3_dropAllOf_68 (by decide) ?_
          refine G_pick [0, 1, 2, 3] rfl (ih (h + 1) _ _ _ _ (by first | exact X | exact XI.upI (X.lvR hh) _ (by omega) (by omega) (by omega) | exact XI.upI X _ (by omega) (by omega) (by omega)) (by rw [ex3]; exact nI_1 h) (by omega) ?_)
          try simp [c3] at c4
          simpa [daL, daS, c1, c2, c3, c4] using hpost
set_option maxRecDepth 20000 in
theorem m_X3_dropAllOf {l : Launch} {g : wG} {z : wZ} {I : wI} {P : wP} {O : wO} {m : Nat} (X : XI z I P) (hm2 : wAl z 2 m) : RT l yX3_dropAllOf cX3_dropAllOf 5 ((some .int)) { frames := 3, cells := 0, slots := 0, locals := 67 } g z [.ref (g.2.2 0 0), .ref (g.2.2 2 m)] I P O (dp (some (.int (daL m z.2 0 (I, P, 0)).2.2)) ((daL m z.2 0 (I, P, 0)).1) ((daL m z.2 0 (I, P, 0)).2.1)) := by
  refine RT.of (own := RX3) rfl (by decide +kernel) (Nat.le_of_ble_eq_true rfl) rfl (fun K C hl hg hR => ?_)
  subst hl
  subst hg
  refine g_iconst (v := 0) (pc' := 1) C dX3_dropAllOf_0 (by decide) rfl ?_
  refine g_istore_n (pc' := 2) C dX3_dropAllOf_1 rfl rfl ?_
  refine g_iconst (v := 0) (pc' := 3) C dX3_dropAllOf_2 (by decide) rfl ?_
  refine g_istore_n (pc' := 4) C dX3_dropAllOf_3 rfl rfl ?_
  exact l_X3_dropAllOf C hR hm2 z.2 0 0 0 I P X nI_0.symm (by omega) ⟨rfl, rfl, rfl⟩
end WPut
