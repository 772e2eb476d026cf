section WLclash
variable {ex : Nat → Prop} {z : wZ} {nw : Nat} {J : wI} {L : wR}
/-- why h keeps a hearing out: 1 to 4, or 0 -/
def itsN (J : wI) (mt : Nat) (r wh : Int32) (h : Nat) : Nat := if mSame J 1 mt r wh h = true then 1 else if mSame J 2 mt r wh h = true then 2 else if mSame J 3 mt r wh h = true then 3 else if mSame J 4 mt r wh h = true then 4 else 0
def lsU (i x : Nat) : Nat := if 0 < i ∧ (x = 0 ∨ i < x) then i else x
def vN4 (b1 b2 b3 b4 : Bool) : Nat := if b1 = true then 1 else if b2 = true then 2 else if b3 = true then 3 else if b4 = true then 4 else 0
theorem vN4_vB : ∀ b1 b2 b3 b4 : Bool, nI (vN4 b1 b2 b3 b4) = vB b1 b2 b3 b4 := by decide
theorem vN4_le : ∀ b1 b2 b3 b4 : Bool, vN4 b1 b2 b3 b4 ≤ 4 := by decide
theorem vN4_step : ∀ E s1 s2 s3 s4 b1 b2 b3 b4 : Bool, (if E = true then lsU (vN4 s1 s2 s3 s4) (vN4 b1 b2 b3 b4) else vN4 b1 b2 b3 b4) = vN4 (b1 || (E && s1)) (b2 || (E && s2)) (b3 || (E && s3)) (b4 || (E && s4)) := by decide
theorem itsN_v {mt : Nat} {r wh : Int32} {h : Nat} : itsN J mt r wh h = vN4 (mSame J 1 mt r wh h) (mSame J 2 mt r wh h) (mSame J 3 mt r wh h) (mSame J 4 mt r wh h) := rfl
theorem lsU_i (i x : Nat) : lsU i (lsU i x) = lsU i x := by
  unfold lsU
  by_cases h : 0 < i ∧ (x = 0 ∨ i < x)
  · rw [if_pos h, if_neg (by omega)]
  · rw [if_neg h, if_neg h]
theorem lsU_le {i x : Nat} (hi : i ≤ 4) (hx : x ≤ 4) : lsU i x ≤ 4 := by unfold lsU; split <;> omega
/-- the hour t is one of the hearing h, which counts -/
def hitP (J : wI) (but : Int32) (h t : Nat) : Prop := ¬ nI h = but ∧ J 13 14 h = 0 ∧ mfr J h ≤ t ∧ t < mfr J h + mh J h
theorem hit_mt (X : MI z.1 z.2 J) {but : Int32} {h f d : Nat} (hh : h < z.2) (hf : f < 10000) (hd : d ≤ 4) : (∃ t, f ≤ t ∧ t < f + d ∧ hitP J but h t) ↔ (¬ nI h = but ∧ J 13 14 h = 0 ∧ mt4 (J 13 18 h) (J 13 19 h) (nI f) (nI d) = true ∧ 0 < mh J h ∧ 0 < d) := by
  obtain ⟨e18, g9⟩ := X.fr hh
  have e19 := X.hr hh
  have h4 := X.hr4 hh
  have key : mt4 (J 13 18 h) (J 13 19 h) (nI f) (nI d) = true ↔ mfr J h < f + d ∧ f < mfr J h + mh J h := by
    unfold mt4
    rw [e18, e19, nI_add, nI_add, Bool.and_eq_true, Bool.not_eq_true', Bool.not_eq_true', decide_eq_false_iff_not, decide_eq_false_iff_not, nI_leI (by omega) (by omega), nI_leI (by omega) (by omega)]
    omega
  rw [key]
  unfold hitP
  constructor
  · rintro ⟨t, h1, h2, h3, h5, h6, h7⟩
    exact ⟨h3, h5, by omega, by omega, by omega⟩
  · rintro ⟨h1, h2, h3, h5, h6⟩
    by_cases q : f ≤ mfr J h
    · exact ⟨mfr J h, q, by omega, h1, h2, Nat.le_refl _, by omega⟩
    · exact ⟨f, Nat.le_refl _, by omega, h1, h2, by omega, by omega⟩
/-- the hearings ahead of h have been looked at: the least so far -/
def leL (J : wI) (mt : Nat) (r wh at1 many but : Int32) (h : Nat) : Nat := vN4 (mClL J 1 mt r wh at1 many but h 0 false) (mClL J 2 mt r wh at1 many but h 0 false) (mClL J 3 mt r wh at1 many but h 0 false) (mClL J 4 mt r wh at1 many but h 0 false)
theorem mClL_succ {v : Int32} {mt : Nat} {r wh at1 many but : Int32} : ∀ (n h : Nat) (b : Bool), mClL J v mt r wh at1 many but (n + 1) h b = mClS J v mt r wh at1 many but (h + n) (mClL J v mt r wh at1 many but n h b)
  | 0, _, _ => rfl
  | n + 1, h, b => by
    show mClL J v mt r wh at1 many but (n + 1) (h + 1) _ = _
    rw [mClL_succ n (h + 1), show h + 1 + n = h + (n + 1) by omega]
    rfl
theorem leL_succ (X : MI z.1 z.2 J) {mt h f d : Nat} {r wh but : Int32} (hh : h < z.2) (hf : f < 10000) (hd : d ≤ 4) (hd0 : 0 < d) (hm0 : 0 < mh J h) : ((∃ t, f ≤ t ∧ t < f + d ∧ hitP J but h t) → leL J mt r wh (nI f) (nI d) but (h + 1) = lsU (itsN J mt r wh h) (leL J mt r wh (nI f) (nI d) but h)) ∧ (¬ (∃ t, f ≤ t ∧ t < f + d ∧ hitP J but h t) → leL J mt r wh (nI f) (nI d) but (h + 1) = leL J mt r wh (nI f) (nI d) but h) := by
  unfold leL
  rw [mClL_succ h 0, mClL_succ h 0, mClL_succ h 0, mClL_succ h 0, Nat.zero_add]
  unfold mClS
  have hx := hit_mt (but := but) X hh hf hd
  rw [itsN_v]
  have := vN4_step (!decide (nI h = but) && (decide (J 13 14 h = 0) && mt4 (J 13 18 h) (J 13 19 h) (nI f) (nI d))) (mSame J 1 mt r wh h) (mSame J 2 mt r wh h) (mSame J 3 mt r wh h) (mSame J 4 mt r wh h) (mClL J 1 mt r wh (nI f) (nI d) but h 0 false) (mClL J 2 mt r wh (nI f) (nI d) but h 0 false) (mClL J 3 mt r wh (nI f) (nI d) but h 0 false) (mClL J 4 mt r wh (nI f) (nI d) but h 0 false)
  have e : ∀ s : Bool, ((!decide (nI h = but)) && (decide (J 13 14 h = 0) && mt4 (J 13 18 h) (J 13 19 h) (nI f) (nI d)) && s) = (!decide (nI h = but) && (decide (J 13 14 h = 0) && (s && mt4 (J 13 18 h) (J 13 19 h) (nI f) (nI d)))) := fun s => by
    cases decide (nI h = but) <;> cases decide (J 13 14 h = 0) <;> cases s <;> cases mt4 (J 13 18 h) (J 13 19 h) (nI f) (nI d) <;> rfl
  rw [e, e, e, e] at this
  rw [← this]
  refine ⟨fun q => ?_, fun q => ?_⟩
  · rw [if_pos]
    obtain ⟨a, b, c, -, -⟩ := hx.mp q
    simp [a, b, c]
  · rw [if_neg]
    intro a
    refine q (hx.mpr ?_)
    simp only [Bool.and_eq_true, Bool.not_eq_true', decide_eq_false_iff_not, decide_eq_true_eq] at a
    exact ⟨a.1, a.2.1, a.2.2, hm0, hd0⟩
theorem leL_mRe {N mt : Nat} {r wh at1 many but : Int32} : nI (leL J mt r wh at1 many but N) = mRe J N mt r wh at1 many but := by
  unfold leL
  rw [vN4_vB, mRe_vB]
theorem its_1 {mt h : Nat} {r wh : Int32} (q : J 13 16 h = r) : itsN J mt r wh h = 1 := by unfold itsN mSame; simp [q]
theorem its_2 {mt h : Nat} {r wh : Int32} (q : ¬ J 13 16 h = r) (q2 : J 13 7 (mm J h) = J 13 7 mt) : itsN J mt r wh h = 2 := by unfold itsN mSame; simp [q, q2]
theorem its_3 {mt h : Nat} {r wh : Int32} (q : ¬ J 13 16 h = r) (q2 : ¬ J 13 7 (mm J h) = J 13 7 mt) (q3 : J 13 8 mt = J 13 8 (mm J h) ∨ J 13 8 mt = J 13 9 (mm J h) ∨ J 13 9 mt = J 13 8 (mm J h) ∨ J 13 9 mt = J 13 9 (mm J h)) : itsN J mt r wh h = 3 := by
  have q4 : J 13 8 (mm J h) = J 13 8 mt ∨ J 13 8 (mm J h) = J 13 9 mt ∨ J 13 9 (mm J h) = J 13 8 mt ∨ J 13 9 (mm J h) = J 13 9 mt := by
    rcases q3 with e | e | e | e
    · exact Or.inl e.symm
    · exact Or.inr (Or.inr (Or.inl e.symm))
    · exact Or.inr (Or.inl e.symm)
    · exact Or.inr (Or.inr (Or.inr e.symm))
  unfold itsN mSame; simp [q, q2, q4]
theorem its_n3 {mt h : Nat} {r wh : Int32} (q : ¬ J 13 16 h = r) (q2 : ¬ J 13 7 (mm J h) = J 13 7 mt) (q3 : ¬ (J 13 8 mt = J 13 8 (mm J h) ∨ J 13 8 mt = J 13 9 (mm J h) ∨ J 13 9 mt = J 13 8 (mm J h) ∨ J 13 9 mt = J 13 9 (mm J h))) : itsN J mt r wh h = if ¬ wh = -1 ∧ J 13 17 h = wh then 4 else 0 := by
  have q4 : ¬ (J 13 8 (mm J h) = J 13 8 mt ∨ J 13 8 (mm J h) = J 13 9 mt ∨ J 13 9 (mm J h) = J 13 8 mt ∨ J 13 9 (mm J h) = J 13 9 mt) := fun q5 => q3 (by
    rcases q5 with e | e | e | e
    · exact Or.inl e.symm
    · exact Or.inr (Or.inr (Or.inl e.symm))
    · exact Or.inr (Or.inl e.symm)
    · exact Or.inr (Or.inr (Or.inr e.symm)))
  unfold itsN mSame
  simp only [show (2 : Int32) = 1 ↔ False by decide, show (3 : Int32) = 1 ↔ False by decide, show (3 : Int32) = 2 ↔ False by decide, show (4 : Int32) = 1 ↔ False by decide, show (4 : Int32) = 2 ↔ False by decide, show (4 : Int32) = 3 ↔ False by decide, if_true, if_false, q, q2, q4, decide_false, Bool.false_eq_true, decide_eq_true_eq]
theorem itsN_le {mt h : Nat} {r wh : Int32} : itsN J mt r wh h ≤ 4 := by rw [itsN_v]; exact vN4_le _ _ _ _
end WLclash
section WLclash2
set_option maxRecDepth 20000 in
theorem w_clash {l : Launch} {g : wG} {z : wZ} {I : wI} {P : wP} {O : wO} {mt r f d nw : Nat} {wh but : Int32} {J : wI} {ex : Nat → Prop} (X : MI z.1 z.2 J) (S : YS ex z nw J (I 13)) (hpos : ∀ h, h < z.2 → 0 < mh J h) (hm : mt < z.1) (hr : r < 4) (hf : f < 10000) (hd : d ≤ 4) (hd0 : 0 < d) (hwh : wh = -1 ∨ ∃ s, s < 4 ∧ wh = nI s) : RT l yL_clash cL_clash 14 ((some .int)) { frames := 1, cells := 0, slots := 0, locals := 22 } g z [.int (nI mt), .int (nI r), .int wh, .int (nI f), .int (nI d), .int but, .ref (g.2.2 13 0), .ref (g.2.2 13 1), .ref (g.2.2 13 6)] I P O (dp (some (.int (mRe J z.2 mt (nI r) wh (nI f) (nI d) but))) I P) := by
  refine RT.of (own := RL) rfl (by decide +kernel) (Nat.le_of_ble_eq_true rfl) rfl (fun K C hl hg hR => ?_)
  subst hl
  subst hg
  have hM8 := S.M8
  have hN16 := S.N16
  have hwn : ¬ wh < 0 ↔ ¬ wh = -1 := by
    rcases hwh with rfl | ⟨s, hs, rfl⟩
    · simp
    · exact ⟨fun _ => nI_nm1 (by omega), fun _ => nI_pos (by omega)⟩
  have outer : ∀ (n h : Nat), h + n = z.2 → G K z I P O 0 0 6 [(0, .int (nI mt)), (1, .int (nI r)), (2, .int wh), (3, .int (nI f)), (4, .int (nI d)), (5, .int but), (6, .ref ((Kg K).2.2 13 0)), (7, .ref ((Kg K).2.2 13 1)), (8, .ref ((Kg K).2.2 13 6)), (9, .int (nI (leL J mt (nI r) wh (nI f) (nI d) but h))), (10, .int (nI h))] [] := by
    intro n
    induction n with
    | zero =>
      intro h hk
      refine g_iload (pc' := 8) C dL_clash_6 rfl rfl ?_
      refine g_aload (pc' := 10) C dL_clash_8 rfl rfl ?_
      refine g_iconst (v := nI 1) (pc' := 11) C dL_clash_10 (by decide) rfl ?_
      refine g_iald (pc' := 12) C (1) rfl (by show 1 < 3; omega) dL_clash_11 (al13 rfl) rfl rfl rfl ?_
      rw [S.q1]
      refine g_icmp_geN (tgt := 222) (pc' := 15) C (by omega) (by omega) dL_clash_12 (by decide) rfl (fun c1 => ?_) (fun c1 => absurd c1 (by omega))
      refine g_iload (pc' := 224) C dL_clash_222 rfl rfl ?_
      have e : h = z.2 := by omega
      exact g_iret C hR dL_clash_224 ⟨by rw [e, leL_mRe], rfl, rfl⟩
    | succ n ih =>
      intro h hk
      have hh : h < z.2 := by omega
      have hm12 : mm J h < 12 := X.mt2 hh
      have hm8 : mm J h < 8 := Nat.lt_of_lt_of_le (X.mtM hh) S.M8
      have hr4 := S.rm4 hh
      have hs4 := S.sp4 hh
      have hlt := eA_lt hm12 hr4 hs4
      have hH4 := X.hr4 hh
      have hHlt := eH_lt hH4 (S.nt3 hh)
      have hN16 := S.N16
      have hn9 := S.n9
      obtain ⟨e18, hf9⟩ := X.fr hh
      have hj := S.jn
      have hmt8 : mt < 8 := by omega
      have hp0 := hpos h hh
      obtain ⟨-, b1, b2, b3, -⟩ := S.m.2.1 (mm J h) (X.mtM hh)
      obtain ⟨-, a1, a2, a3, -⟩ := S.m.2.1 mt hm
      have er : J 13 16 h = nI (rmN J h) := (S.a.2 h hh).2.2.2.2.1
      have inner : ∀ (n2 t x : Nat), t + n2 = f + d → f ≤ t → ((x = leL J mt (nI r) wh (nI f) (nI d) but h ∧ ∀ t', f ≤ t' → t' < t → ¬ hitP J but h t') ∨ (x = lsU (itsN J mt (nI r) wh h) (leL J mt (nI r) wh (nI f) (nI d) but h) ∧ ∃ t', f ≤ t' ∧ t' < t ∧ hitP J but h t')) → G K z I P O 0 0 18 [(0, .int (nI mt)), (1, .int (nI r)), (2, .int wh), (3, .int (nI f)), (4, .int (nI d)), (5, .int but), (6, .ref ((Kg K).2.2 13 0)), (7, .ref ((Kg K).2.2 13 1)), (8, .ref ((Kg K).2.2 13 6)), (9, .int (nI x)), (10, .int (nI h)), (11, .int (nI t))] [] := by
        intro n2
        induction n2 with
        | zero =>
          intro t x ht hft hx
          have ex1 : x = leL J mt (nI r) wh (nI f) (nI d) but (h + 1) := by
            have hL := leL_succ (mt := mt) (r := nI r) (wh := wh) (but := but) X hh hf hd hd0 hp0
            rcases hx with ⟨e, q⟩ | ⟨e, q⟩
            · rw [hL.2 (fun ⟨t', h1, h2, h3⟩ => q t' h1 (by omega) h3), e]
            · rw [hL.1 (by obtain ⟨t', h1, h2, h3⟩ := q; exact ⟨t', h1, by omega, h3⟩), e]
          subst ex1
          refine g_iload (pc' := 20) C dL_clash_18 rfl rfl ?_
          refine g_iload_n (pc' := 21) C dL_clash_20 rfl rfl ?_
          refine g_iload (pc' := 23) C dL_clash_21 rfl rfl ?_
          refine g_iaddN (pc' := 24) C dL_clash_23 rfl ?_
          refine g_icmp_geN (tgt := 216) (pc' := 27) C (by omega) (by omega) dL_clash_24 (by decide) rfl (fun c1 => ?_) (fun c1 => absurd c1 (by omega))
          refine g_iinc (pc' := 219) C dL_clash_216 rfl (iiN _) rfl rfl ?_
          refine g_goto (tgt := 6) C dL_clash_219 (by decide) ?_
          exact G_pick [0, 1, 2, 3, 4, 5, 6, 7, 8, 9, 10] rfl (ih (h + 1) (by omega))
        | succ n2 ih2 =>
          intro t x ht hft hx
          have hx4 : x ≤ 4 := by
            rcases hx with ⟨e, -⟩ | ⟨e, -⟩
            · rw [e]; exact vN4_le _ _ _ _
            · rw [e]; exact lsU_le itsN_le (vN4_le _ _ _ _)
          have skip : ¬ hitP J but h t → G K z I P O 0 0 210 [(0, .int (nI mt)), (1, .int (nI r)), (2, .int wh), (3, .int (nI f)), (4, .int (nI d)), (5, .int but), (6, .ref ((Kg K).2.2 13 0)), (7, .ref ((Kg K).2.2 13 1)), (8, .ref ((Kg K).2.2 13 6)), (9, .int (nI x)), (10, .int (nI h)), (11, .int (nI t))] [] := by
            intro hno
            refine g_iinc (pc' := 213) C dL_clash_210 rfl (iiN _) rfl rfl ?_
            refine g_goto (tgt := 18) C dL_clash_213 (by decide) ?_
            refine G_pick [0, 1, 2, 3, 4, 5, 6, 7, 8, 9, 10, 11] rfl (ih2 (t + 1) x (by omega) (by omega) ?_)
            rcases hx with ⟨e, q⟩ | ⟨e, t', h1, h2, h3⟩
            · refine Or.inl ⟨e, fun t' h1 h2 q2 => ?_⟩
              by_cases e2 : t' = t
              · subst e2; exact hno q2
              · exact q t' h1 (by omega) q2
            · exact Or.inr ⟨e, t', h1, by omega, h3⟩
          have upd_ : hitP J but h t → ∀ i : Nat, i = itsN J mt (nI r) wh h → G K z I P O 0 0 182 [(0, .int (nI mt)), (1, .int (nI r)), (2, .int wh), (3, .int (nI f)), (4, .int (nI d)), (5, .int but), (6, .ref ((Kg K).2.2 13 0)), (7, .ref ((Kg K).2.2 13 1)), (8, .ref ((Kg K).2.2 13 6)), (9, .int (nI x)), (10, .int (nI h)), (11, .int (nI t)), (12, .int (nI (mm J h)))] [.int (nI i)] := by
            intro hyes i hi
            have hi4 : i ≤ 4 := by rw [hi]; exact itsN_le
            refine g_istore (pc' := 184) C dL_clash_182 rfl rfl ?_
            refine g_iload (pc' := 186) C dL_clash_184 rfl rfl ?_
            refine g_if_le (tgt := 206) (pc' := 189) C dL_clash_186 (by decide) rfl (fun c1 => ?_) (fun c1 => ?_)
            ·
              have c1 := (nI_leI (a := i) (b := 0) (by omega) (by omega)).mp (by rw [nI_0]; exact c1)
              refine g_iload (pc' := 208) C dL_clash_206 rfl rfl ?_
              refine g_istore (pc' := 210) C dL_clash_208 rfl rfl ?_
              refine g_iinc (pc' := 213) C dL_clash_210 rfl (iiN _) rfl rfl ?_
              refine g_goto (tgt := 18) C dL_clash_213 (by decide) ?_
              refine G_pick [0, 1, 2, 3, 4, 5, 6, 7, 8, 9, 10, 11] rfl (ih2 (t + 1) x (by omega) (by omega) (Or.inr ⟨?_, t, hft, by omega, hyes⟩))
              have hU : lsU i x = lsU i (leL J mt (nI r) wh (nI f) (nI d) but h) := by
                rcases hx with ⟨e, -⟩ | ⟨e, -⟩
                · rw [e]
                · rw [e, ← hi, lsU_i]
              rw [← hi, ← hU]
              unfold lsU
              rw [if_neg (by omega)]
            ·
              have c1 : 0 < i := Nat.pos_of_ne_zero (fun e => c1 (by rw [e]; decide))
              refine g_iload (pc' := 191) C dL_clash_189 rfl rfl ?_
              refine g_if_eq (tgt := 201) (pc' := 194) C dL_clash_191 (by decide) rfl (fun c2 => ?_) (fun c2 => ?_)
              ·
                have c2 : x = 0 := (nI_eq (b := 0) (by omega) (by omega)).mp (by rw [nI_0]; exact c2)
                refine g_iload (pc' := 203) C dL_clash_201 rfl rfl ?_
                refine g_goto (tgt := 208) C dL_clash_203 (by decide) ?_
                refine g_istore (pc' := 210) C dL_clash_208 rfl rfl ?_
                refine g_iinc (pc' := 213) C dL_clash_210 rfl (iiN _) rfl rfl ?_
                refine g_goto (tgt := 18) C dL_clash_213 (by decide) ?_
                refine G_pick [0, 1, 2, 3, 4, 5, 6, 7, 8, 9, 10, 11] rfl (ih2 (t + 1) i (by omega) (by omega) (Or.inr ⟨?_, t, hft, by omega, hyes⟩))
                have hU : lsU i x = lsU i (leL J mt (nI r) wh (nI f) (nI d) but h) := by
                  rcases hx with ⟨e, -⟩ | ⟨e, -⟩
                  · rw [e]
                  · rw [e, ← hi, lsU_i]
                rw [← hi, ← hU]
                unfold lsU
                rw [if_pos (by omega)]
              ·
                have c2 : ¬ x = 0 := fun e => c2 (by rw [e]; decide)
                refine g_iload (pc' := 196) C dL_clash_194 rfl rfl ?_
                refine g_iload (pc' := 198) C dL_clash_196 rfl rfl ?_
                refine g_icmp_geN (tgt := 206) (pc' := 201) C (by omega) (by omega) dL_clash_198 (by decide) rfl (fun c3 => ?_) (fun c3 => ?_)
                ·
                  refine g_iload (pc' := 208) C dL_clash_206 rfl rfl ?_
                  refine g_istore (pc' := 210) C dL_clash_208 rfl rfl ?_
                  refine g_iinc (pc' := 213) C dL_clash_210 rfl (iiN _) rfl rfl ?_
                  refine g_goto (tgt := 18) C dL_clash_213 (by decide) ?_
                  refine G_pick [0, 1, 2, 3, 4, 5, 6, 7, 8, 9, 10, 11] rfl (ih2 (t + 1) x (by omega) (by omega) (Or.inr ⟨?_, t, hft, by omega, hyes⟩))
                  have hU : lsU i x = lsU i (leL J mt (nI r) wh (nI f) (nI d) but h) := by
                    rcases hx with ⟨e, -⟩ | ⟨e, -⟩
                    · rw [e]
                    · rw [e, ← hi, lsU_i]
                  rw [← hi, ← hU]
                  unfold lsU
                  rw [if_neg (by omega)]
                ·
                  refine g_iload (pc' := 203) C dL_clash_201 rfl rfl ?_
                  refine g_goto (tgt := 208) C dL_clash_203 (by decide) ?_
                  refine g_istore (pc' := 210) C dL_clash_208 rfl rfl ?_
                  refine g_iinc (pc' := 213) C dL_clash_210 rfl (iiN _) rfl rfl ?_
                  refine g_goto (tgt := 18) C dL_clash_213 (by decide) ?_
                  refine G_pick [0, 1, 2, 3, 4, 5, 6, 7, 8, 9, 10, 11] rfl (ih2 (t + 1) i (by omega) (by omega) (Or.inr ⟨?_, t, hft, by omega, hyes⟩))
                  have hU : lsU i x = lsU i (leL J mt (nI r) wh (nI f) (nI d) but h) := by
                    rcases hx with ⟨e, -⟩ | ⟨e, -⟩
                    · rw [e]
                    · rw [e, ← hi, lsU_i]
                  rw [← hi, ← hU]
                  unfold lsU
                  rw [if_pos (by omega)]
          refine g_iload (pc' := 20) C dL_clash_18 rfl rfl ?_
          refine g_iload_n (pc' := 21) C dL_clash_20 rfl rfl ?_
          refine g_iload (pc' := 23) C dL_clash_21 rfl rfl ?_
          refine g_iaddN (pc' := 24) C dL_clash_23 rfl ?_
          refine g_icmp_geN (tgt := 216) (pc' := 27) C (by omega) (by omega) dL_clash_24 (by decide) rfl (fun c1 => absurd c1 (by omega)) (fun c1 => ?_)
          refine g_iload (pc' := 29) C dL_clash_27 rfl rfl ?_
          refine g_iload (pc' := 31) C dL_clash_29 rfl rfl ?_
          refine g_icmp_eq (tgt := 210) (pc' := 34) C dL_clash_31 (by decide) rfl (fun c2 => ?_) (fun c2 => ?_)
          ·
            exact skip (fun q => q.1 c2)
          ·
            refine g_aload (pc' := 36) C dL_clash_34 rfl rfl ?_
            refine g_iconst (v := nI 4) (pc' := 37) C dL_clash_36 (by decide) rfl ?_
            refine g_iload (pc' := 39) C dL_clash_37 rfl rfl ?_
            refine g_imulN (pc' := 40) C dL_clash_39 rfl ?_
            refine g_iald (pc' := 41) C (4 * h) rfl (by show _ < 64; omega) dL_clash_40 (al13 rfl) rfl rfl rfl ?_
            rw [(S.rS hh)]
            refine g_if_ne (tgt := 210) (pc' := 44) C dL_clash_41 (by decide) rfl (fun c3 => ?_) (fun c3 => ?_)
            ·
              exact skip (fun q => c3 q.2.1)
            ·
              refine g_aload (pc' := 46) C dL_clash_44 rfl rfl ?_
              refine g_iconst (v := nI 4) (pc' := 47) C dL_clash_46 (by decide) rfl ?_
              refine g_iload (pc' := 49) C dL_clash_47 rfl rfl ?_
              refine g_imulN (pc' := 50) C dL_clash_49 rfl ?_
              refine g_iconst (v := nI 2) (pc' := 51) C dL_clash_50 (by decide) rfl ?_
              refine g_iaddN (pc' := 52) C dL_clash_51 rfl ?_
              refine g_iald (pc' := 53) C (4 * h + 2) rfl (by show _ < 64; omega) dL_clash_52 (al13 rfl) rfl rfl rfl ?_
              rw [(S.rF X hh)]
              refine g_iload (pc' := 55) C dL_clash_53 rfl rfl ?_
              refine g_icmp_gtN (tgt := 210) (pc' := 58) C (by omega) (by omega) dL_clash_55 (by decide) rfl (fun c4 => ?_) (fun c4 => ?_)
              ·
                exact skip (fun q => by have := q.2.2.1; omega)
              ·
                refine g_iload (pc' := 60) C dL_clash_58 rfl rfl ?_
                refine g_aload (pc' := 62) C dL_clash_60 rfl rfl ?_
                refine g_iconst (v := nI 4) (pc' := 63) C dL_clash_62 (by decide) rfl ?_
                refine g_iload (pc' := 65) C dL_clash_63 rfl rfl ?_
                refine g_imulN (pc' := 66) C dL_clash_65 rfl ?_
                refine g_iconst (v := nI 2) (pc' := 67) C dL_clash_66 (by decide) rfl ?_
                refine g_iaddN (pc' := 68) C dL_clash_67 rfl ?_
                refine g_iald (pc' := 69) C (4 * h + 2) rfl (by show _ < 64; omega) dL_clash_68 (al13 rfl) rfl rfl rfl ?_
                rw [(S.rF X hh)]
                refine g_aload (pc' := 71) C dL_clash_69 rfl rfl ?_
                refine g_iconst (v := nI 4) (pc' := 72) C dL_clash_71 (by decide) rfl ?_
                refine g_iload (pc' := 74) C dL_clash_72 rfl rfl ?_
                refine g_imulN (pc' := 75) C dL_clash_74 rfl ?_
                refine g_iconst (v := nI 3) (pc' := 76) C dL_clash_75 (by decide) rfl ?_
                refine g_iaddN (pc' := 77) C dL_clash_76 rfl ?_
                refine g_iald (pc' := 78) C (4 * h + 3) rfl (by show _ < 64; omega) dL_clash_77 (al13 rfl) rfl rfl rfl ?_
                rw [(S.rH hh)]
                refine g_bipush (v := nI 16) (pc' := 80) C dL_clash_78 (by decide) rfl ?_
                refine g_iremN (r := mh J h) (pc' := 81) C (by omega) (by omega) (eH_h hH4) dL_clash_80 rfl ?_
                refine g_iaddN (pc' := 82) C dL_clash_81 rfl ?_
                refine g_icmp_geN (tgt := 210) (pc' := 85) C (by omega) (by omega) dL_clash_82 (by decide) rfl (fun c5 => ?_) (fun c5 => ?_)
                ·
                  exact skip (fun q => by have := q.2.2.2; omega)
                ·
                  refine g_aload (pc' := 87) C dL_clash_85 rfl rfl ?_
                  refine g_iconst (v := nI 4) (pc' := 88) C dL_clash_87 (by decide) rfl ?_
                  refine g_iload (pc' := 90) C dL_clash_88 rfl rfl ?_
                  refine g_imulN (pc' := 91) C dL_clash_90 rfl ?_
                  refine g_iconst (v := nI 1) (pc' := 92) C dL_clash_91 (by decide) rfl ?_
                  refine g_iaddN (pc' := 93) C dL_clash_92 rfl ?_
                  refine g_iald (pc' := 94) C (4 * h + 1) rfl (by show _ < 64; omega) dL_clash_93 (al13 rfl) rfl rfl rfl ?_
                  rw [(S.rA hh)]
                  refine g_bipush (v := nI 16) (pc' := 96) C dL_clash_94 (by decide) rfl ?_
                  refine g_iremN (r := mm J h) (pc' := 97) C (by omega) (by omega) (eA_m hm12 hr4) dL_clash_96 rfl ?_
                  refine g_istore (pc' := 99) C dL_clash_97 rfl rfl ?_
                  refine g_aload (pc' := 101) C dL_clash_99 rfl rfl ?_
                  refine g_iconst (v := nI 4) (pc' := 102) C dL_clash_101 (by decide) rfl ?_
                  refine g_iload (pc' := 104) C dL_clash_102 rfl rfl ?_
                  refine g_imulN (pc' := 105) C dL_clash_104 rfl ?_
                  refine g_iconst (v := nI 1) (pc' := 106) C dL_clash_105 (by decide) rfl ?_
                  refine g_iaddN (pc' := 107) C dL_clash_106 rfl ?_
                  refine g_iald (pc' := 108) C (4 * h + 1) rfl (by show _ < 64; omega) dL_clash_107 (al13 rfl) rfl rfl rfl ?_
                  rw [(S.rA hh)]
                  refine g_bipush (v := nI 16) (pc' := 110) C dL_clash_108 (by decide) rfl ?_
                  refine g_idivN (r := eA J h / 16) (pc' := 111) C (by omega) (by omega) rfl dL_clash_110 rfl ?_
                  refine g_iconst (v := nI 4) (pc' := 112) C dL_clash_111 (by decide) rfl ?_
                  refine g_iremN (r := rmN J h) (pc' := 113) C (by omega) (by omega) (eA_r hm12 hr4) dL_clash_112 rfl ?_
                  refine g_iload_n (pc' := 114) C dL_clash_113 rfl rfl ?_
                  refine g_icmp_neN (tgt := 121) (pc' := 117) C (by omega) (by omega) dL_clash_114 (by decide) rfl (fun c6 => ?_) (fun c6 => ?_)
                  ·
                    have e1 : ¬ J 13 16 h = nI r := by rw [er]; exact fun q => c6 ((nI_eq (by omega) (by omega)).mp q)
                    refine g_aload (pc' := 123) C dL_clash_121 rfl rfl ?_
                    refine g_bipush (v := nI 8) (pc' := 125) C dL_clash_123 (by decide) rfl ?_
                    refine g_iload (pc' := 127) C dL_clash_125 rfl rfl ?_
                    refine g_imulN (pc' := 128) C dL_clash_127 rfl ?_
                    refine g_iconst (v := nI 1) (pc' := 129) C dL_clash_128 (by decide) rfl ?_
                    refine g_iaddN (pc' := 130) C dL_clash_129 rfl ?_
                    refine g_iald (pc' := 131) C (8 * (mm J h) + 1) rfl (by show _ < 64; omega) dL_clash_130 (al13 rfl) rfl rfl rfl ?_
                    rw [b1]
                    refine g_aload (pc' := 133) C dL_clash_131 rfl rfl ?_
                    refine g_bipush (v := nI 8) (pc' := 135) C dL_clash_133 (by decide) rfl ?_
                    refine g_iload_n (pc' := 136) C dL_clash_135 rfl rfl ?_
                    refine g_imulN (pc' := 137) C dL_clash_136 rfl ?_
                    refine g_iconst (v := nI 1) (pc' := 138) C dL_clash_137 (by decide) rfl ?_
                    refine g_iaddN (pc' := 139) C dL_clash_138 rfl ?_
                    refine g_iald (pc' := 140) C (8 * mt + 1) rfl (by show _ < 64; omega) dL_clash_139 (al13 rfl) rfl rfl rfl ?_
                    rw [a1]
                    refine g_icmp_ne (tgt := 147) (pc' := 143) C dL_clash_140 (by decide) rfl (fun c7 => ?_) (fun c7 => ?_)
                    ·
                      have e2 : ¬ J 13 7 (mm J h) = J 13 7 mt := c7
                      refine g_iload_n (pc' := 148) C dL_clash_147 rfl rfl ?_
                      refine g_iload (pc' := 150) C dL_clash_148 rfl rfl ?_
                      refine g_aload (pc' := 152) C dL_clash_150 rfl rfl ?_
                      refine g_callS (pc' := 155) (As := [.int (nI mt), .int (nI (mm J h)), .ref ((Kg K).2.2 13 0)]) C cs_L_61 (w_shares hmt8 hm8 a2 a3 b2 b3) dL_clash_152 ⟨rfl, by decide +kernel, by decide +kernel, (by decide +kernel : (parseMethodDescriptor yL_shares.desc).map (fun d => d.parameters.length) = some 3)⟩ ⟨⟨Nat.le_of_ble_eq_true rfl, Nat.le_of_ble_eq_true rfl⟩, rfl, rfl⟩ rfl (Nat.le_of_ble_eq_true rfl) ⟨Nat.zero_le _, Nat.zero_le _⟩ rfl (fun v1 I1 P1 q => ?_)
                      obtain ⟨rfl, rfl, rfl⟩ := q
                      refine g_if_eq (tgt := 162) (pc' := 158) C dL_clash_155 (by decide) rfl (fun c8 => ?_) (fun c8 => ?_)
                      ·
                        have e3 := of_decide_eq_false (b2_0.mp c8)
                        refine g_iload_n (pc' := 163) C dL_clash_162 rfl rfl ?_
                        refine g_if_lt (tgt := 181) (pc' := 166) C dL_clash_163 (by decide) rfl (fun c9 => ?_) (fun c9 => ?_)
                        ·
                          have e5 : ¬ (¬ wh = -1 ∧ J 13 17 h = wh) := fun q => hwn.mpr q.1 c9
                          refine g_iconst (v := nI 0) (pc' := 182) C dL_clash_181 (by decide) rfl ?_
                          exact upd_ ⟨c2, c3, c4, c5⟩ 0 (by rw [its_n3 e1 e2 e3, if_neg e5])
                        ·
                          have e4 : ¬ wh < 0 := c9
                          refine g_iload (pc' := 168) C dL_clash_166 rfl rfl ?_
                          refine g_aload (pc' := 170) C dL_clash_168 rfl rfl ?_
                          refine g_callS (pc' := 173) (As := [.int (nI h), .ref ((Kg K).2.2 13 1)]) (S := []) C cs_L_47 (w_speaker (sp := (J 13 17 h)) (S.rA hh) (by omega) (by omega) (by rw [eA_s hm12 hr4, S.spv hh])) dL_clash_170 ⟨rfl, by decide +kernel, by decide +kernel, (by decide +kernel : (parseMethodDescriptor yL_speaker.desc).map (fun d => d.parameters.length) = some 2)⟩ ⟨⟨Nat.le_of_ble_eq_true rfl, Nat.le_of_ble_eq_true rfl⟩, rfl, rfl⟩ rfl (Nat.le_of_ble_eq_true rfl) ⟨Nat.zero_le _, Nat.zero_le _⟩ rfl (fun v1 I1 P1 q => ?_)
                          obtain ⟨rfl, q1, q2⟩ := q
                          rw [q1, q2]
                          refine g_iload_n (pc' := 174) C dL_clash_173 rfl rfl ?_
                          refine g_icmp_ne (tgt := 181) (pc' := 177) C dL_clash_174 (by decide) rfl (fun c10 => ?_) (fun c10 => ?_)
                          ·
                            have e5 : ¬ (¬ wh = -1 ∧ J 13 17 h = wh) := fun q => c10 q.2
                            refine g_iconst (v := nI 0) (pc' := 182) C dL_clash_181 (by decide) rfl ?_
                            exact upd_ ⟨c2, c3, c4, c5⟩ 0 (by rw [its_n3 e1 e2 e3, if_neg e5])
                          ·
                            have e5 : J 13 17 h = wh := c10
                            refine g_iconst (v := nI 4) (pc' := 178) C dL_clash_177 (by decide) rfl ?_
                            refine g_goto (tgt := 182) C dL_clash_178 (by decide) ?_
                            exact upd_ ⟨c2, c3, c4, c5⟩ 4 (by rw [its_n3 e1 e2 e3, if_pos ⟨hwn.mp e4, e5⟩])
                      ·
                        have e3 := of_decide_eq_true (b2_1.mp c8)
                        refine g_iconst (v := nI 3) (pc' := 159) C dL_clash_158 (by decide) rfl ?_
                        refine g_goto (tgt := 182) C dL_clash_159 (by decide) ?_
                        exact upd_ ⟨c2, c3, c4, c5⟩ 3 (its_3 e1 e2 e3).symm
                    ·
                      have e2 : J 13 7 (mm J h) = J 13 7 mt := c7
                      refine g_iconst (v := nI 2) (pc' := 144) C dL_clash_143 (by decide) rfl ?_
                      refine g_goto (tgt := 182) C dL_clash_144 (by decide) ?_
                      exact upd_ ⟨c2, c3, c4, c5⟩ 2 (its_2 e1 e2).symm
                  ·
                    have e1 : J 13 16 h = nI r := by rw [er, c6]
                    refine g_iconst (v := nI 1) (pc' := 118) C dL_clash_117 (by decide) rfl ?_
                    refine g_goto (tgt := 182) C dL_clash_118 (by decide) ?_
                    exact upd_ ⟨c2, c3, c4, c5⟩ 1 (its_1 e1).symm
      refine g_iload (pc' := 8) C dL_clash_6 rfl rfl ?_
      refine g_aload (pc' := 10) C dL_clash_8 rfl rfl ?_
      refine g_iconst (v := nI 1) (pc' := 11) C dL_clash_10 (by decide) rfl ?_
      refine g_iald (pc' := 12) C (1) rfl (by show 1 < 3; omega) dL_clash_11 (al13 rfl) rfl rfl rfl ?_
      rw [S.q1]
      refine g_icmp_geN (tgt := 222) (pc' := 15) C (by omega) (by omega) dL_clash_12 (by decide) rfl (fun c1 => absurd c1 (by omega)) (fun c1 => ?_)
      refine g_iload_n (pc' := 16) C dL_clash_15 rfl rfl ?_
      refine g_istore (pc' := 18) C dL_clash_16 rfl rfl ?_
      exact G_pick [0, 1, 2, 3, 4, 5, 6, 7, 8, 9, 10, 11] rfl (inner d f (leL J mt (nI r) wh (nI f) (nI d) but h) rfl (Nat.le_refl _) (Or.inl ⟨rfl, fun t' h1 h2 => absurd h1 (by omega)⟩))
  refine g_iconst (v := nI 0) (pc' := 1) C dL_clash_0 (by decide) rfl ?_
  refine g_istore (pc' := 3) C dL_clash_1 rfl rfl ?_
  refine g_iconst (v := nI 0) (pc' := 4) C dL_clash_3 (by decide) rfl ?_
  refine g_istore (pc' := 6) C dL_clash_4 rfl rfl ?_
  exact G_pick [0, 1, 2, 3, 4, 5, 6, 7, 8, 9, 10] rfl (outer z.2 0 (by omega))
end WLclash2
