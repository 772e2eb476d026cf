section WMove
theorem XI.upI {z : wZ} {I : wI} {P : wP} (X : XI z I P) {k j c : Nat} (v : Int32) (h0 : k ≠ 0 ∨ c = 6) (h3 : k ≠ 3 ∨ c ≠ 2) (h2 : k ≠ 2 ∨ c ≠ 2) : XI z (upI I k j c v) P := X.of (by rw [upI_at, if_neg (by omega)]) (by rw [upI_at, if_neg (by omega)]) (fun h => by rw [upI_at, if_neg (by omega)]) (fun m => by rw [upI_at, if_neg (by omega)]) (fun _ _ _ => rfl) (fun i p q hi hp h => X.h9 hi hp h)
theorem XI.upP9 {z : wZ} {I : wI} {P : wP} (X : XI z I P) {i p : Nat} {v : Option Nat} (hv : ∀ q, v = some q → q < z.1) : XI z I (upP P 9 i p v) := X.of rfl rfl (fun _ => rfl) (fun _ => rfl) (fun k j hk => upP_off P v (fun e => hk e.1)) (fun i2 p2 q hi hp h => by
  rw [upP_at] at h
  split at h
  · exact hv q h
  · exact X.h9 hi hp h)
theorem tkI_off {I : wI} {P : wP} {i m : Nat} {x y : Int32} {k j c : Nat} (h : ¬ (k = 2 ∧ c = 6)) : tkI I P i m x y k j c = I k j c := by
  unfold tkI
  cases py I P i x y with
  | none => rfl
  | some q =>
    by_cases e : q = m
    · simp only [if_pos e]
    · simp only [if_neg e]
      rw [upI_at, if_neg (by omega)]
theorem tkP_off {I : wI} {P : wP} {i : Nat} {x y : Int32} {k j : Nat} (h : k ≠ 9) : tkP I P i x y k j = P k j := by
  unfold tkP
  cases py I P i x y with
  | none => rfl
  | some q => exact upP_off P _ (fun e => h e.1)
theorem XI.tk {z : wZ} {I : wI} {P : wP} (X : XI z I P) {i m : Nat} {x y : Int32} : XI z (tkI I P i m x y) (tkP I P i x y) := X.of (tkI_off (by omega)) (tkI_off (by omega)) (fun _ => tkI_off (by omega)) (fun _ => tkI_off (by omega)) (fun k j hk => tkP_off hk) (fun i2 p q hi hp h => by
  unfold tkP at h
  cases hpy : py I P i x y with
  | none => rw [hpy] at h; exact X.h9 hi hp h
  | some _ =>
    rw [hpy] at h
    simp only [] at h
    rw [upP_at] at h
    split at h
    · cases h
    · exact X.h9 hi hp h)
theorem XI.kp {z : wZ} {I : wI} {P : wP} (X : XI z I P) {i m : Nat} {x y : Int32} (hm : wAl z 2 m) : XI z (kpI I i x y) (kpP P i m x) := XI.upP9 (XI.upI (XI.upI X _ (by omega) (by omega) (by omega)) _ (by omega) (by omega) (by omega)) (fun q e => by cases e; exact hm)
theorem XI.pt {z : wZ} {s : wI × wP} (X : XI z s.1 s.2) {i m h k : Nat} {fr now : Int32} : XI z (ptS i m h fr now k s).1 (ptS i m h fr now k s).2 := XI.upI X.tk _ (by omega) (by omega) (by omega)
theorem XI.lv {z : wZ} {s : wI × wP} (X : XI z s.1 s.2) {i m h k : Nat} (hm : wAl z 2 m) : XI z (lvS i m h k s).1 (lvS i m h k s).2 := X.kp hm
theorem XI.lvL {z : wZ} {i m h : Nat} (hm : wAl z 2 m) : ∀ (n k : Nat) (s : wI × wP), XI z s.1 s.2 → XI z (lvL i m h n k s).1 (lvL i m h n k s).2
  | 0, _, _, X => X
  | n + 1, k, s, X => XI.lvL hm n (k + 1) _ (X.lv hm)
def lvR (I : wI) (P : wP) (h : Nat) : wI × wP := if I 3 h 7 - I 0 0 6 < 8 then (if I 3 h 6 < 0 ∨ 4 ≤ I 3 h 6 then (I, P) else lvL (I 3 h 6).toNatClampNeg (mx P h) h (hrN I h) 0 (I, P)) else (upI I 2 (mx P h) 6 (I 2 (mx P h) 6 + chg I h), P)
theorem XI.lvR {z : wZ} {I : wI} {P : wP} {h : Nat} (X : XI z I P) (hh : wAl z 3 h) : XI z (lvR I P h).1 (lvR I P h).2 := by
  unfold Jvm.Pilot.CHearingpayLaw_law_r6972_369389.lvR
  split
  · split
    · exact X
    · exact XI.lvL (X.hm2 hh) _ _ _ X
  · exact XI.upI X _ (by omega) (by omega) (by omega)
def putS (I : wI) (P : wP) (h i : Nat) (r x f : Int32) : wI × wP := (putB (ptL i (mx P h) h f (I 0 0 6) (hrN I h) 0 (sA I h r x f, P)).1 (mx P h) h, (ptL i (mx P h) h f (I 0 0 6) (hrN I h) 0 (sA I h r x f, P)).2)
def putN (I : wI) (P : wP) (h : Nat) (r x f : Int32) : wI := putB (p0L h (hrN I h) 0 (sA I h r x f)) (mx P h) h
def daS (m h : Nat) (s : wI × wP × Int32) : wI × wP × Int32 := if mx s.2.1 h = m ∧ s.1 3 h 4 = 0 then (if ¬ s.1 3 h 7 ≤ s.1 0 0 6 then (upI (lvR s.1 s.2.1 h).1 3 h 4 3, (lvR s.1 s.2.1 h).2, s.2.2 + 1) else (upI s.1 3 h 4 3, s.2.1, s.2.2 + 1)) else s
def daL (m : Nat) : Nat → Nat → wI × wP × Int32 → wI × wP × Int32
  | 0, _, s => s
  | n + 1, h, s => daL m n (h + 1) (daS m h s)
def ehS (P : wP) (h : Nat) (s : wI × Int32) : wI × Int32 := if s.1 3 h 4 = 0 ∧ ¬ s.1 0 0 6 < s.1 3 h 7 + s.1 3 h 2 then (hE s.1 (mx P h) h, if hE s.1 (mx P h) h 3 h 4 = 1 then s.2 + 1 else s.2) else s
def ehL (P : wP) : Nat → Nat → wI × Int32 → wI × Int32
  | 0, _, s => s
  | n + 1, h, s => ehL P n (h + 1) (ehS P h s)
def rtL (now : Int32) : Nat → Nat → wI → wI
  | 0, _, I => I
  | n + 1, m, I => rtL now n (m + 1) (rT I m now)
def phL (I : wI) (P : wP) (m : Nat) : Nat → Nat → Int32 → Int32
  | 0, _, x => x
  | n + 1, i, x => phL I P m n (i + 1) (x + hpL I P i m (I 0 0 6) 16 0 0)
def phO (I : wI) (P : wP) (m : Nat) : Int32 := phL I P m 4 0 0
theorem rT_off {I : wI} {m : Nat} {now : Int32} {k j c : Nat} (h : ¬ (k = 2 ∧ (c = 5 ∨ c = 7))) : rT I m now k j c = I k j c := by
  unfold rT
  split
  · rw [upI_at, if_neg (by omega)]
  · split
    · rw [upI_at, if_neg (by omega)]
    · rfl
theorem hE_off {I : wI} {m h : Nat} {k j c : Nat} (h2 : ¬ (k = 2 ∧ c = 5)) (h3 : ¬ (k = 3 ∧ c = 4)) : hE I m h k j c = I k j c := by
  unfold hE
  split
  · rw [upI_at, if_neg (by omega), upI_at, if_neg (by omega)]
  · rw [upI_at, if_neg (by omega)]
theorem XI.rT {z : wZ} {I : wI} {P : wP} (X : XI z I P) {m : Nat} {now : Int32} : XI z (rT I m now) P := X.of (rT_off (by omega)) (rT_off (by omega)) (fun _ => rT_off (by omega)) (fun _ => rT_off (by omega)) (fun _ _ _ => rfl) (fun i p q hi hp h => X.h9 hi hp h)
theorem XI.hE {z : wZ} {I : wI} {P : wP} (X : XI z I P) {m h : Nat} : XI z (hE I m h) P := X.of (hE_off (by omega) (by omega)) (hE_off (by omega) (by omega)) (fun _ => hE_off (by omega) (by omega)) (fun _ => hE_off (by omega) (by omega)) (fun _ _ _ => rfl) (fun i p q hi hp h => X.h9 hi hp h)
theorem XI.eh {z : wZ} {P : wP} {s : wI × Int32} (X : XI z s.1 P) {h : Nat} : XI z (ehS P h s).1 P := by
  unfold ehS
  split
  · exact X.hE
  · exact X
theorem XI.da {z : wZ} {s : wI × wP × Int32} (X : XI z s.1 s.2.1) {m h : Nat} (hh : wAl z 3 h) : XI z (daS m h s).1 (daS m h s).2.1 := by
  unfold daS
  split
  · split
    · exact XI.upI (X.lvR hh) _ (by omega) (by omega) (by omega)
    · exact XI.upI X _ (by omega) (by omega) (by omega)
  · exact X
theorem XI.sA {z : wZ} {I : wI} {P : wP} (X : XI z I P) {h : Nat} {r x f : Int32} : XI z (sA I h r x f) P := XI.upI (XI.upI (XI.upI (XI.upI (XI.upI X _ (by omega) (by omega) (by omega)) _ (by omega) (by omega) (by omega)) _ (by omega) (by omega) (by omega)) _ (by omega) (by omega) (by omega)) _ (by omega) (by omega) (by omega)
theorem sA_off {I : wI} {h : Nat} {r x f : Int32} {k j c : Nat} (hk : k ≠ 3 ∨ c < 5) : sA I h r x f k j c = I k j c := by
  unfold sA
  rw [upI_at, if_neg (by omega), upI_at, if_neg (by omega), upI_at, if_neg (by omega), upI_at, if_neg (by omega), upI_at, if_neg (by omega)]
set_option maxRecDepth 20000 in
theorem l_X3_runTerms {K : wK} {z : wZ} {O : wO} {post : Option Value → wI → wP → Prop} {P : wP} (C : Cx K cX3_runTerms RX3 3 (none) { frames := 2, cells := 0, slots := 0, locals := 41 } z) (hR : Rx K z O post) : ∀ (n m : Nat) (x1 : Int32) (I : wI), XI z I P → x1 = nI m → m + n = z.1 → post none (rtL (I 0 0 6) n m I) P → G K z I P O 0 0 2 [(0, .ref ((Kg K).2.2 0 0)), (1, .int x1)] [] := by
  intro n
  induction n with
  | zero =>
    intro m x1 I X ex1 hk hpost
    refine g_iload_n (pc' := 3) C dX3_runTerms_2 rfl rfl ?_
    refine g_aload_n (pc' := 4) C dX3_runTerms_3 rfl rfl ?_
    refine f_X3_31 (pc' := 7) C dX3_runTerms_4 (by first | assumption | exact rfl | exact al13 rfl | exact Nat.le_of_ble_eq_true rfl) rfl ?_
    refine g_icmp_ge (tgt := 34) (pc' := 10) C dX3_runTerms_7 (by decide) rfl (fun _ => ?_) (fun q => absurd (by rw [ex1, X.2.2.1, show m = z.1 by omega]; exact Int32.le_refl _) q)
    exact g_vret C hR dX3_runTerms_34 hpost
  | succ n ih =>
    intro m x1 I X ex1 hk hpost
    have hmz : m < z.1 := by omega
    obtain ⟨y1, hy1⟩ : ∃ y, y = x1 := ⟨_, rfl⟩
    refine g_iload_n (pc' := 3) C dX3_runTerms_2 rfl rfl ?_
    refine g_aload_n (pc' := 4) C dX3_runTerms_3 rfl rfl ?_
    refine f_X3_31 (pc' := 7) C dX3_runTerms_4 (by first | assumption | exact rfl | exact al13 rfl | exact Nat.le_of_ble_eq_true rfl) rfl ?_
    refine g_icmp_ge (tgt := 34) (pc' := 10) C dX3_runTerms_7 (by decide) rfl (fun c1 => absurd c1 (by rw [ex1, X.2.2.1]; exact nI_ge hmz (by have := X.1; omega))) (fun c1 => ?_)
    refine g_aload_n (pc' := 11) C dX3_runTerms_10 rfl rfl ?_
    refine g_iload_n (pc' := 12) C dX3_runTerms_11 rfl rfl ?_
    refine k_X3_95 (pc' := 15) C (m_X3_matterAtS X ex1 hmz) dX3_runTerms_12 (by first | assumption | exact rfl | exact al13 rfl | exact Nat.le_of_ble_eq_true rfl) ⟨⟨Nat.le_of_ble_eq_true rfl, Nat.le_of_ble_eq_true rfl⟩, rfl, rfl⟩ (Nat.le_of_ble_eq_true rfl) ⟨Nat.zero_le _, Nat.zero_le _⟩ rfl ?_
    refine g_astore_n (pc' := 16) C dX3_runTerms_15 rfl rfl ?_
    refine g_aload_n (pc' := 17) C dX3_runTerms_16 rfl rfl ?_
    refine g_ifnull (pc' := 20) C dX3_runTerms_17 rfl ?_
    refine g_aload_n (pc' := 21) C dX3_runTerms_20 rfl rfl ?_
    refine g_aload_n (pc' := 22) C dX3_runTerms_21 rfl rfl ?_
    refine f_X3_38 (pc' := 25) C dX3_runTerms_22 (by first | assumption | exact rfl | exact al13 rfl | exact Nat.le_of_ble_eq_true rfl) rfl ?_
    refine k_X3_281 (pc' := 28) C (m_X2_runTerm hmz) dX3_runTerms_25 (by first | assumption | exact rfl | exact al13 rfl | exact Nat.le_of_ble_eq_true rfl) ⟨⟨Nat.le_of_ble_eq_true rfl, Nat.le_of_ble_eq_true rfl⟩, rfl, rfl⟩ (Nat.le_of_ble_eq_true rfl) ⟨Nat.zero_le _, Nat.zero_le _⟩ rfl ?_
    refine g_iinc (pc' := 31) C dX3_runTerms_28 rfl (ii1 _) rfl rfl ?_
    refine g_goto (tgt := 2) C dX3_runTerms_31 (by decide) ?_
    refine G_pick [0, 1] rfl (ih (m + 1) _ _ X.rT (by rw [ex1]; exact nI_1 m) (by omega) ?_)
    simpa [rtL, rT_off] using hpost
set_option maxRecDepth 20000 in
theorem m_X3_runTerms {l : Launch} {g : wG} {z : wZ} {I : wI} {P : wP} {O : wO} (X : XI z I P) : RT l yX3_runTerms cX3_runTerms 3 (none) { frames := 2, cells := 0, slots := 0, locals := 41 } g z [.ref (g.2.2 0 0)] I P O (dp (none) (rtL (I 0 0 6) z.1 0 I) (P)) := by
  refine RT.of (own := RX3) rfl (by decide +kernel) (Nat.le_of_ble_eq_true rfl) rfl (fun K C hl hg hR => ?_)
  subst hl
  subst hg
  refine g_iconst (v := 0) (pc' := 1) C dX3_runTerms_0 (by decide) rfl ?_
  refine g_istore_n (pc' := 2) C dX3_runTerms_1 rfl rfl ?_
  exact l_X3_runTerms C hR z.1 0 0 I X nI_0.symm (by omega) ⟨rfl, rfl, rfl⟩
set_option maxRecDepth 20000 in
theorem l_X3_balances {K : wK} {z : wZ} {O : wO} {post : Option Value → wI → wP → Prop} {I : wI} {P : wP} (C : Cx K cX3_balances RX3 4 ((some .int)) { frames := 1, cells := 0, slots := 0, locals := 21 } z) (hR : Rx K z O post) (X : XI z I P) : ∀ (n m : Nat) (x1 x2 : Int32), x2 = nI m → m + n = z.1 → post (some (.int (blL I n m x1))) I P → G K z I P O 0 0 4 [(0, .ref ((Kg K).2.2 0 0)), (1, .int x1), (2, .int x2)] [] := by
  intro n
  induction n with
  | zero =>
    intro m x1 x2 ex2 hk hpost
    refine g_iload_n (pc' := 5) C dX3_balances_4 rfl rfl ?_
    refine g_aload_n (pc' := 6) C dX3_balances_5 rfl rfl ?_
    refine f_X3_31 (pc' := 9) C dX3_balances_6 (by first | assumption | exact rfl | exact al13 rfl | exact Nat.le_of_ble_eq_true rfl) rfl ?_
    refine g_icmp_ge (tgt := 35) (pc' := 12) C dX3_balances_9 (by decide) rfl (fun _ => ?_) (fun q => absurd (by rw [ex2, X.2.2.1, show m = z.1 by omega]; exact Int32.le_refl _) q)
    refine g_iload_n (pc' := 36) C dX3_balances_35 rfl rfl ?_
    exact g_iret C hR dX3_balances_36 hpost
  | succ n ih =>
    intro m x1 x2 ex2 hk hpost
    have hmz : m < z.1 := by omega
    refine g_iload_n (pc' := 5) C dX3_balances_4 rfl rfl ?_
    refine g_aload_n (pc' := 6) C dX3_balances_5 rfl rfl ?_
    refine f_X3_31 (pc' := 9) C dX3_balances_6 (by first | assumption | exact rfl | exact al13 rfl | exact Nat.le_of_ble_eq_true rfl) rfl ?_
    refine g_icmp_ge (tgt := 35) (pc' := 12) C dX3_balances_9 (by decide) rfl (fun c1 => absurd c1 (by rw [ex2, X.2.2.1]; exact nI_ge hmz (by have := X.1; omega))) (fun c1 => ?_)
    have hm2 : wAl z 2 m := hmz
    refine g_aload_n (pc' := 13) C dX3_balances_12 rfl rfl ?_
    refine g_iload_n (pc' := 14) C dX3_balances_13 rfl rfl ?_
    refine k_X3_95 (pc' := 17) C (m_X3_matterAtS X ex2 hmz) dX3_balances_14 (by first | assumption | exact rfl | exact al13 rfl | exact Nat.le_of_ble_eq_true rfl) ⟨⟨Nat.le_of_ble_eq_true rfl, Nat.le_of_ble_eq_true rfl⟩, rfl, rfl⟩ (Nat.le_of_ble_eq_true rfl) ⟨Nat.zero_le _, Nat.zero_le _⟩ rfl ?_
    refine g_astore_n (pc' := 18) C dX3_balances_17 rfl rfl ?_
    refine g_aload_n (pc' := 19) C dX3_balances_18 rfl rfl ?_
    refine g_ifnull (pc' := 22) C dX3_balances_19 rfl ?_
    refine g_iload_n (pc' := 23) C dX3_balances_22 rfl rfl ?_
    refine g_aload_n (pc' := 24) C dX3_balances_23 rfl rfl ?_
    refine f_X3_85 (pc' := 27) C dX3_balances_24 (by first | assumption | exact rfl | exact al13 rfl | exact Nat.le_of_ble_eq_true rfl) rfl ?_
    refine g_iadd (pc' := 28) C dX3_balances_27 rfl ?_
    refine g_istore_n (pc' := 29) C dX3_balances_28 rfl rfl ?_
    refine g_iinc (pc' := 32) C dX3_balances_29 rfl (ii1 _) rfl rfl ?_
    refine g_goto (tgt := 4) C dX3_balances_32 (by decide) ?_
    refine G_pick [0, 1, 2] rfl (ih (m + 1) _ _ (by rw [ex2]; exact nI_1 m) (by omega) ?_)
    simpa [blL] using hpost
set_option maxRecDepth 20000 in
theorem m_X3_balances {l : Launch} {g : wG} {z : wZ} {I : wI} {P : wP} {O : wO} (X : XI z I P) : RT l yX3_balances cX3_balances 4 ((some .int)) { frames := 1, cells := 0, slots := 0, locals := 21 } g z [.ref (g.2.2 0 0)] I P O (dp (some (.int (blL I z.1 0 0))) (I) (P)) := by
  refine RT.of (own := RX3) rfl (by decide +kernel) (Nat.le_of_ble_eq_true rfl) rfl (fun K C hl hg hR => ?_)
  subst hl
  subst hg
  refine g_iconst (v := 0) (pc' := 1) C dX3_balances_0 (by decide) rfl ?_
  refine g_istore_n (pc' := 2) C dX3_balances_1 rfl rfl ?_
  refine g_iconst (v := 0) (pc' := 3) C dX3_balances_2 (by decide) rfl ?_
  refine g_istore_n (pc' := 4) C dX3_balances_3 rfl rfl ?_
  exact l_X3_balances C hR X z.1 0 0 0 nI_0.symm (by omega) ⟨rfl, rfl, rfl⟩
set_option maxRecDepth 20000 in
theorem l_X3_endHearings {K : wK} {z : wZ} {O : wO} {post : Option Value → wI → wP → Prop} {P : wP} (C : Cx K cX3_endHearings RX3 4 ((some .int)) { frames := 2, cells := 0, slots := 0, locals := 40 } z) (hR : Rx K z O post) : ∀ (n h : Nat) (x1 x2 : Int32) (I : wI), XI z I P → x2 = nI h → h + n = z.2 → post (some (.int (ehL P n h (I, x1)).2)) (ehL P n h (I, x1)).1 P → G K z I P O 0 0 4 [(0, .ref ((Kg K).2.2 0 0)), (1, .int x1), (2, .int x2)] [] := by
  intro n
  induction n with
  | zero =>
    intro h x1 x2 I X ex2 hk hpost
    refine g_iload_n (pc' := 5) C dX3_endHearings_4 rfl rfl ?_
    refine g_aload_n (pc' := 6) C dX3_endHearings_5 rfl rfl ?_
    refine f_X3_35 (pc' := 9) C dX3_endHearings_6 (by first | assumption | exact rfl | exact al13 rfl | exact Nat.le_of_ble_eq_true rfl) rfl ?_
    refine g_icmp_ge (tgt := 66) (pc' := 12) C dX3_endHearings_9 (by decide) rfl (fun _ => ?_) (fun q => absurd (by rw [ex2, X.2.2.2.1, show h = z.2 by omega]; exact Int32.le_refl _) q)
    refine g_iload_n (pc' := 67) C dX3_endHearings_66 rfl rfl ?_
    exact g_iret C hR dX3_endHearings_67 hpost
  | succ n ih =>
    intro h x1 x2 I X ex2 hk hpost
    have hhz : h < z.2 := by omega
    refine g_iload_n (pc' := 5) C dX3_endHearings_4 rfl rfl ?_
    refine g_aload_n (pc' := 6) C dX3_endHearings_5 rfl rfl ?_
    refine f_X3_35 (pc' := 9) C dX3_endHearings_6 (by first | assumption | exact rfl | exact al13 rfl | exact Nat.le_of_ble_eq_true rfl) rfl ?_
    refine g_icmp_ge (tgt := 66) (pc' := 12) C dX3_endHearings_9 (by decide) rfl (fun c1 => absurd c1 (by rw [ex2, X.2.2.2.1]; exact nI_ge hhz (by have := X.2.1; omega))) (fun c1 => ?_)
    have hh : wAl z 3 h := hhz
    refine g_aload_n (pc' := 13) C dX3_endHearings_12 rfl rfl ?_
    refine g_iload_n (pc' := 14) C dX3_endHearings_13 rfl rfl ?_
    refine k_X3_149 (pc' := 17) C (m_X3_hearingAtS X ex2 hhz) dX3_endHearings_14 (by first | assumption | exact rfl | exact al13 rfl | exact Nat.le_of_ble_eq_true rfl) ⟨⟨Nat.le_of_ble_eq_true rfl, Nat.le_of_ble_eq_true rfl⟩, rfl, rfl⟩ (Nat.le_of_ble_eq_true rfl) ⟨Nat.zero_le _, Nat.zero_le _⟩ rfl ?_
    refine g_astore_n (pc' := 18) C dX3_endHearings_17 rfl rfl ?_
    refine g_aload_n (pc' := 19) C dX3_endHearings_18 rfl rfl ?_
    refine g_ifnull (pc' := 22) C dX3_endHearings_19 rfl ?_
    refine g_aload_n (pc' := 23) C dX3_endHearings_22 rfl rfl ?_
    refine f_X3_178 (pc' := 26) C dX3_endHearings_23 (by first | assumption | exact rfl | exact al13 rfl | exact Nat.le_of_ble_eq_true rfl) rfl ?_
    refine g_if_ne (tgt := 60) (pc' := 29) C dX3_endHearings_26 (by decide) rfl (fun c2 => ?_) (fun c2 => ?_)
    ·
      refine g_iinc (pc' := 63) C dX3_endHearings_60 rfl (ii1 _) rfl rfl ?_
      refine g_goto (tgt := 4) C dX3_endHearings_63 (by decide) ?_
      refine G_pick [0, 1, 2] rfl (ih (h + 1) _ _ _ (by first | exact X | exact X.hE) (by rw [ex2]; exact nI_1 h) (by omega) ?_)
      simpa [ehL, ehS, c1, c2] using hpost
    ·
      refine g_aload_n (pc' := 30) C dX3_endHearings_29 rfl rfl ?_
      refine f_X3_189 (pc' := 33) C dX3_endHearings_30 (by first | assumption | exact rfl | exact al13 rfl | exact Nat.le_of_ble_eq_true rfl) rfl ?_
      refine g_aload_n (pc' := 34) C dX3_endHearings_33 rfl rfl ?_
      refine f_X3_167 (pc' := 37) C dX3_endHearings_34 (by first | assumption | exact rfl | exact al13 rfl | exact Nat.le_of_ble_eq_true rfl) rfl ?_
      refine g_iadd (pc' := 38) C dX3_endHearings_37 rfl ?_
      refine g_aload_n (pc' := 39) C dX3_endHearings_38 rfl rfl ?_
      refine f_X3_38 (pc' := 42) C dX3_endHearings_39 (by first | assumption | exact rfl | exact al13 rfl | exact Nat.le_of_ble_eq_true rfl) rfl ?_
      refine g_icmp_gt (tgt := 60) (pc' := 45) C dX3_endHearings_42 (by decide) rfl (fun c3 => ?_) (fun c3 => ?_)
      ·
        refine g_iinc (pc' := 63) C dX3_endHearings_60 rfl (ii1 _) rfl rfl ?_
        refine g_goto (tgt := 4) C dX3_endHearings_63 (by decide) ?_
        refine G_pick [0, 1, 2] rfl (ih (h + 1) _ _ _ (by first | exact X | exact X.hE) (by rw [ex2]; exact nI_1 h) (by omega) ?_)
        simpa [ehL, ehS, c1, c2, c3] using hpost
      ·
        refine g_aload_n (pc' := 46) C dX3_endHearings_45 rfl rfl ?_
        refine k_X3_279 (pc' := 49) C (m_X0_end hh (X.hm hh) (X.hm2 hh)) dX3_endHearings_46 (by first | assumption | exact rfl | exact al13 rfl | exact Nat.le_of_ble_eq_true rfl) ⟨⟨Nat.le_of_ble_eq_true rfl, Nat.le_of_ble_eq_true rfl⟩, rfl, rfl⟩ (Nat.le_of_ble_eq_true rfl) ⟨Nat.zero_le _, Nat.zero_le _⟩ rfl ?_
        refine g_aload_n (pc' := 50) C dX3_endHearings_49 rfl rfl ?_
        refine f_X3_178 (pc' := 53) C dX3_endHearings_50 (by first | assumption | exact rfl | exact al13 rfl | exact Nat.le_of_ble_eq_true rfl) rfl ?_
        refine g_iconst (v := 1) (pc' := 54) C dX3_endHearings_53 (by decide) rfl ?_
        refine g_icmp_ne (tgt := 60) (pc' := 57) C dX3_endHearings_54 (by decide) rfl (fun c4 => ?_) (fun c4 => ?_)
        ·
          refine g_iinc (pc' := 63) C dX3_endHearings_60 rfl (ii1 _) rfl rfl ?_
          refine g_goto (tgt := 4) C dX3_endHearings_63 (by decide) ?_
          refine G_pick [0, 1, 2] rfl (ih (h + 1) _ _ _ (by first | exact X | exact X.hE) (by rw [ex2]; exact nI_1 h) (by omega) ?_)
          simpa [ehL, ehS, c1, c2, c3, c4] using hpost
        ·
          refine g_iinc (pc' := 60) C dX3_endHearings_57 rfl (ii1 _) rfl rfl ?_
          refine g_iinc (pc' := 63) C dX3_endHearings_60 rfl (ii1 _) rfl rfl ?_
          refine g_goto (tgt := 4) C dX3_endHearings_63 (by decide) ?_
          refine G_pick [0, 1, 2] rfl (ih (h + 1) _ _ _ (by first | exact X | exact X.hE) (by rw [ex2]; exact nI_1 h) (by omega) ?_)
          simpa [ehL, ehS, c1, c2, c3, c4] using hpost
set_option maxRecDepth 20000 in
theorem m_X3_endHearings {l : Launch} {g : wG} {z : wZ} {I : wI} {P : wP} {O : wO} (X : XI z I P) : RT l yX3_endHearings cX3_endHearings 4 ((some .int)) { frames := 2, cells := 0, slots := 0, locals := 40 } g z [.ref (g.2.2 0 0)] I P O (dp (some (.int (ehL P z.2 0 (I, 0)).2)) ((ehL P z.2 0 (I, 0)).1) (P)) := by
  refine RT.of (own := RX3) rfl (by decide +kernel) (Nat.le_of_ble_eq_true rfl) rfl (fun K C hl hg hR => ?_)
  subst hl
  subst hg
  refine g_iconst (v := 0) (pc' := 1) C dX3_endHearings_0 (by decide) rfl ?_
  refine g_istore_n (pc' := 2) C dX3_endHearings_1 rfl rfl ?_
  refine g_iconst (v := 0) (pc' := 3) C dX3_endHearings_2 (by decide) rfl ?_
  refine g_istore_n (pc' := 4) C dX3_endHearings_3 rfl rfl ?_
  exact l_X3_endHearings C hR z.2 0 0 0 I X nI_0.symm (by omega) ⟨rfl, rfl, rfl⟩
set_option maxRecDepth 20000 in
theorem l_X3_paidHoursOf {K : wK} {z : wZ} {O : wO} {post : Option Value → wI → wP → Prop} {I : wI} {P : wP} {m : Nat} (C : Cx K cX3_paidHoursOf RX3 5 ((some .int)) { frames := 1, cells := 0, slots := 0, locals := 24 } z) (hR : Rx K z O post) (X : XI z I P) (hm2 : wAl z 2 m) : ∀ (n i : Nat) (x2 x3 : Int32), x3 = nI i → i + n = 4 → post (some (.int (phL I P m n i x2))) I P → G K z I P O 0 0 4 [(0, .ref ((Kg K).2.2 0 0)), (1, .ref ((Kg K).2.2 2 m)), (2, .int x2), (3, .int x3)] [] := by
  intro n
  induction n with
  | zero =>
    intro i x2 x3 ex3 hk hpost
    refine g_iload_n (pc' := 5) C dX3_paidHoursOf_4 rfl rfl ?_
    refine g_aload_n (pc' := 6) C dX3_paidHoursOf_5 rfl rfl ?_
    refine f_X3_11 (pc' := 9) C dX3_paidHoursOf_6 (by first | assumption | exact rfl | exact al13 rfl | exact Nat.le_of_ble_eq_true rfl) rfl ?_
    refine g_alen (pc' := 10) (v := 4) (t0 := 4) C dX3_paidHoursOf_9 (by first | assumption | exact rfl | exact al13 rfl | exact Nat.le_of_ble_eq_true rfl) rfl rfl rfl rfl ?_
    refine g_icmp_ge (tgt := 44) (pc' := 13) C dX3_paidHoursOf_10 (by decide) rfl (fun _ => ?_) (fun q => absurd (by rw [ex3, show i = 4 by omega]; decide) q)
    refine g_iload_n (pc' := 45) C dX3_paidHoursOf_44 rfl rfl ?_
    exact g_iret C hR dX3_paidHoursOf_45 hpost
  | succ n ih =>
    intro i x2 x3 ex3 hk hpost
    have hi : wAl z 1 i := (by omega : i < 4)
    refine g_iload_n (pc' := 5) C dX3_paidHoursOf_4 rfl rfl ?_
    refine g_aload_n (pc' := 6) C dX3_paidHoursOf_5 rfl rfl ?_
    refine f_X3_11 (pc' := 9) C dX3_paidHoursOf_6 (by first | assumption | exact rfl | exact al13 rfl | exact Nat.le_of_ble_eq_true rfl) rfl ?_
    refine g_alen (pc' := 10) (v := 4) (t0 := 4) C dX3_paidHoursOf_9 (by first | assumption | exact rfl | exact al13 rfl | exact Nat.le_of_ble_eq_true rfl) rfl rfl rfl rfl ?_
    refine g_icmp_ge (tgt := 44) (pc' := 13) C dX3_paidHoursOf_10 (by decide) rfl (fun c1 => absurd c1 (by rw [ex3]; exact nI_ge (a := i) (b := 4) (by omega) (by decide))) (fun c1 => ?_)
    refine g_aload_n (pc' := 14) C dX3_paidHoursOf_13 rfl rfl ?_
    refine g_iload_n (pc' := 15) C dX3_paidHoursOf_14 rfl rfl ?_
    refine k_X3_42 (pc' := 18) C (m_X3_interpreterAtS ex3 hi (X.2.2.2.2.2.2.1 i hi)) dX3_paidHoursOf_15 (by first | assumption | exact rfl | exact al13 rfl | exact Nat.le_of_ble_eq_true rfl) ⟨⟨Nat.le_of_ble_eq_true rfl, Nat.le_of_ble_eq_true rfl⟩, rfl, rfl⟩ (Nat.le_of_ble_eq_true rfl) ⟨Nat.zero_le _, Nat.zero_le _⟩ rfl ?_
    refine g_astore (pc' := 20) C dX3_paidHoursOf_18 rfl rfl ?_
    refine g_aload (pc' := 22) C dX3_paidHoursOf_20 rfl rfl ?_
    refine g_ifnull (pc' := 25) C dX3_paidHoursOf_22 rfl ?_
    refine g_iload_n (pc' := 26) C dX3_paidHoursOf_25 rfl rfl ?_
    refine g_aload (pc' := 28) C dX3_paidHoursOf_26 rfl rfl ?_
    refine g_aload_n (pc' := 29) C dX3_paidHoursOf_28 rfl rfl ?_
    refine g_aload_n (pc' := 30) C dX3_paidHoursOf_29 rfl rfl ?_
    refine f_X3_38 (pc' := 33) C dX3_paidHoursOf_30 (by first | assumption | exact rfl | exact al13 rfl | exact Nat.le_of_ble_eq_true rfl) rfl ?_
    refine k_X3_284 (pc' := 36) C (m_X1_hoursPaidBy hi hm2 (fun p q hp hq => X.h9 hi hp hq)) dX3_paidHoursOf_33 (by first | assumption | exact rfl | exact al13 rfl | exact Nat.le_of_ble_eq_true rfl) ⟨⟨Nat.le_of_ble_eq_true rfl, Nat.le_of_ble_eq_true rfl⟩, rfl, rfl⟩ (Nat.le_of_ble_eq_true rfl) ⟨Nat.zero_le _, Nat.zero_le _⟩ rfl ?_
    refine g_iadd (pc' := 37) C dX3_paidHoursOf_36 rfl ?_
    refine g_istore_n (pc' := 38) C dX3_paidHoursOf_37 rfl rfl ?_
    refine g_iinc (pc' := 41) C dX3_paidHoursOf_38 rfl (ii1 _) rfl rfl ?_
    refine g_goto (tgt := 4) C dX3_paidHoursOf_41 (by decide) ?_
    refine G_pick [0, 1, 2, 3] rfl (ih (i + 1) _ _ (by rw [ex3]; exact nI_1 i) (by omega) ?_)
    exact hpost
set_option maxRecDepth 20000 in
theorem m_X3_paidHoursOf {l : Launch} {g : wG} {z : wZ} {I : wI} {P : wP} {O : wO} {m : Nat} (X : XI z I P) (hm2 : wAl z 2 m) : RT l yX3_paidHoursOf cX3_paidHoursOf 5 ((some .int)) { frames := 1, cells := 0, slots := 0, locals := 24 } g z [.ref (g.2.2 0 0), .ref (g.2.2 2 m)] I P O (dp (some (.int (phO I P m))) (I) (P)) := by
  refine RT.of (own := RX3) rfl (by decide +kernel) (Nat.le_of_ble_eq_true rfl) rfl (fun K C hl hg hR => ?_)
  subst hl
  subst hg
  refine g_iconst (v := 0) (pc' := 1) C dX3_paidHoursOf_0 (by decide) rfl ?_
  refine g_istore_n (pc' := 2) C dX3_paidHoursOf_1 rfl rfl ?_
  refine g_iconst (v := 0) (pc' := 3) C dX3_paidHoursOf_2 (by decide) rfl ?_
  refine g_istore_n (pc' := 4) C dX3_paidHoursOf_3 rfl rfl ?_
  exact l_X3_paidHoursOf C hR X hm2 4 0 0 0 nI_0.symm rfl ⟨rfl, rfl, rfl⟩
set_option maxRecDepth 20000 in
theorem l_X3_leave {K : wK} {z : wZ} {O : wO} {post : Option Value → wI → wP → Prop} {h i m hr : Nat} (C : Cx K cX3_leave RX3 4 (none) { frames := 2, cells := 0, slots := 0, locals := 44 } z) (hR : Rx K z O post) (hh : wAl z 3 h) (hi : wAl z 1 i) (hm2 : wAl z 2 m) (hr4 : hr ≤ 4) : ∀ (n k : Nat) (x3 : Int32) (I : wI) (P : wP), XI z I P → P 3 h 1 = some m → I 3 h 2 = nI hr → x3 = nI k → k + n = hr → post none (lvL i m h n k (I, P)).1 (lvL i m h n k (I, P)).2 → G K z I P O 0 0 42 [(0, .ref ((Kg K).2.2 0 0)), (1, .ref ((Kg K).2.2 3 h)), (2, .ref ((Kg K).2.2 1 i)), (3, .int x3)] [] := by
  intro n
  induction n with
  | zero =>
    intro k x3 I P X hm hr ex3 hk hpost
    refine g_aload_n (pc' := 43) C dX3_leave_42 rfl rfl ?_
    refine g_ifnull (pc' := 46) C dX3_leave_43 rfl ?_
    refine g_iload_n (pc' := 47) C dX3_leave_46 rfl rfl ?_
    refine g_aload_n (pc' := 48) C dX3_leave_47 rfl rfl ?_
    refine f_X3_167 (pc' := 51) C dX3_leave_48 (by first | assumption | exact rfl | exact al13 rfl | exact Nat.le_of_ble_eq_true rfl) rfl ?_
    refine g_icmp_ge (tgt := 89) (pc' := 54) C dX3_leave_51 (by decide) rfl (fun _ => ?_) (fun q => absurd (by rw [ex3, hr, show k = _ by omega]; exact Int32.le_refl _) q)
    exact g_vret C hR dX3_leave_89 hpost
  | succ n ih =>
    intro k x3 I P X hm hr ex3 hk hpost
    refine g_aload_n (pc' := 43) C dX3_leave_42 rfl rfl ?_
    refine g_ifnull (pc' := 46) C dX3_leave_43 rfl ?_
    refine g_iload_n (pc' := 47) C dX3_leave_46 rfl rfl ?_
    refine g_aload_n (pc' := 48) C dX3_leave_47 rfl rfl ?_
    refine f_X3_167 (pc' := 51) C dX3_leave_48 (by first | assumption | exact rfl | exact al13 rfl | exact Nat.le_of_ble_eq_true rfl) rfl ?_
    refine g_icmp_ge (tgt := 89) (pc' := 54) C dX3_leave_51 (by decide) rfl (fun c1 => absurd c1 (by rw [ex3, hr]; exact nI_ge (by omega) (by omega))) (fun c1 => ?_)
    refine g_iload_n (pc' := 55) C dX3_leave_54 rfl rfl ?_
    refine g_aload_n (pc' := 56) C dX3_leave_55 rfl rfl ?_
    refine f_X3_268 (pc' := 59) C dX3_leave_56 (by first | assumption | exact rfl | exact al13 rfl | exact Nat.le_of_ble_eq_true rfl) rfl ?_
    refine g_alen (pc' := 60) (v := 4) (t0 := 0) C dX3_leave_59 (by first | assumption | exact rfl | exact al13 rfl | exact Nat.le_of_ble_eq_true rfl) rfl rfl rfl rfl ?_
    refine g_icmp_ge (tgt := 89) (pc' := 63) C dX3_leave_60 (by decide) rfl (fun c2 => absurd c2 (by rw [ex3]; exact nI_ge (a := k) (b := 4) (by omega) (by decide))) (fun c2 => ?_)
    refine g_aload_n (pc' := 64) C dX3_leave_63 rfl rfl ?_
    refine g_aload_n (pc' := 65) C dX3_leave_64 rfl rfl ?_
    refine f_X3_189 (pc' := 68) C dX3_leave_65 (by first | assumption | exact rfl | exact al13 rfl | exact Nat.le_of_ble_eq_true rfl) rfl ?_
    refine g_iload_n (pc' := 69) C dX3_leave_68 rfl rfl ?_
    refine g_iadd (pc' := 70) C dX3_leave_69 rfl ?_
    refine g_aload_n (pc' := 71) C dX3_leave_70 rfl rfl ?_
    refine f_X3_161 (pc' := 74) C hm dX3_leave_71 (by first | assumption | exact rfl | exact al13 rfl | exact Nat.le_of_ble_eq_true rfl) rfl ?_
    refine g_aload_n (pc' := 75) C dX3_leave_74 rfl rfl ?_
    refine f_X3_268 (pc' := 78) C dX3_leave_75 (by first | assumption | exact rfl | exact al13 rfl | exact Nat.le_of_ble_eq_true rfl) rfl ?_
    refine g_iload_n (pc' := 79) C dX3_leave_78 rfl rfl ?_
    refine g_iald (pc' := 80) C (k) ex3 (by omega) dX3_leave_79 (by first | assumption | exact rfl | exact al13 rfl | exact Nat.le_of_ble_eq_true rfl) rfl rfl rfl ?_
    refine k_X3_276 (pc' := 83) C (m_X1_keep hi hm2) dX3_leave_80 (by first | assumption | exact rfl | exact al13 rfl | exact Nat.le_of_ble_eq_true rfl) ⟨⟨Nat.le_of_ble_eq_true rfl, Nat.le_of_ble_eq_true rfl⟩, rfl, rfl⟩ (Nat.le_of_ble_eq_true rfl) ⟨Nat.zero_le _, Nat.zero_le _⟩ rfl ?_
    refine g_iinc (pc' := 86) C dX3_leave_83 rfl (ii1 _) rfl rfl ?_
    refine g_goto (tgt := 42) C dX3_leave_86 (by decide) ?_
    refine G_pick [0, 1, 2, 3] rfl (ih (k + 1) _ _ _ (X.kp hm2) (by unfold kpP; rw [upP_at, if_neg (by omega)]; exact hm) (by unfold kpI; rw [upI_at, if_neg (by omega), upI_at, if_neg (by omega)]; exact hr) (by rw [ex3]; exact nI_1 k) (by omega) ?_)
    rw [ex3]
    exact hpost
set_option maxRecDepth 20000 in
theorem m_X3_leave {l : Launch} {g : wG} {z : wZ} {I : wI} {P : wP} {O : wO} {h : Nat} (X : XI z I P) (hh : wAl z 3 h) : RT l yX3_leave cX3_leave 4 (none) { frames := 2, cells := 0, slots := 0, locals := 44 } g z [.ref (g.2.2 0 0), .ref (g.2.2 3 h)] I P O (dp (none) ((lvR I P h).1) ((lvR I P h).2)) := by
  refine RT.of (own := RX3) rfl (by decide +kernel) (Nat.le_of_ble_eq_true rfl) rfl (fun K C hl hg hR => ?_)
  subst hl
  subst hg
  have hm := X.hm hh
  have hm2 := X.hm2 hh
  refine g_aload_n (pc' := 1) C dX3_leave_0 rfl rfl ?_
  refine f_X3_189 (pc' := 4) C dX3_leave_1 (by first | assumption | exact rfl | exact al13 rfl | exact Nat.le_of_ble_eq_true rfl) rfl ?_
  refine g_aload_n (pc' := 5) C dX3_leave_4 rfl rfl ?_
  refine f_X3_38 (pc' := 8) C dX3_leave_5 (by first | assumption | exact rfl | exact al13 rfl | exact Nat.le_of_ble_eq_true rfl) rfl ?_
  refine g_isub (pc' := 9) C dX3_leave_8 rfl ?_
  refine g_bipush (v := 8) (pc' := 11) C dX3_leave_9 (by decide) rfl ?_
  refine g_icmp_lt (tgt := 31) (pc' := 14) C dX3_leave_11 (by decide) rfl (fun c1 => ?_) (fun c1 => ?_)
  ·
    refine g_aload_n (pc' := 32) C dX3_leave_31 rfl rfl ?_
    refine g_aload_n (pc' := 33) C dX3_leave_32 rfl rfl ?_
    refine f_X3_242 (pc' := 36) C dX3_leave_33 (by first | assumption | exact rfl | exact al13 rfl | exact Nat.le_of_ble_eq_true rfl) rfl ?_
    rcases in_of (I 3 h 6) 4 (by decide) with ⟨j, hj4, hj⟩ | hx
    · have hn : ¬ (I 3 h 6 < 0 ∨ 4 ≤ I 3 h 6) := by rw [hj]; exact fun e => e.elim (nI_pos (by omega)) (nI_ge (a := j) (b := 4) hj4 (by decide))
      have hcl : (I 3 h 6).toNatClampNeg = j := by rw [hj]; exact nI_clamp (by omega)
      have hi : wAl z 1 j := hj4
      refine k_X3_42 (pc' := 39) C (m_X3_interpreterAtS hj hj4 (X.2.2.2.2.2.2.1 j hj4)) dX3_leave_36 (by first | assumption | exact rfl | exact al13 rfl | exact Nat.le_of_ble_eq_true rfl) ⟨⟨Nat.le_of_ble_eq_true rfl, Nat.le_of_ble_eq_true rfl⟩, rfl, rfl⟩ (Nat.le_of_ble_eq_true rfl) ⟨Nat.zero_le _, Nat.zero_le _⟩ rfl ?_
      refine g_astore_n (pc' := 40) C dX3_leave_39 rfl rfl ?_
      refine g_iconst (v := 0) (pc' := 41) C dX3_leave_40 (by decide) rfl ?_
      refine g_istore_n (pc' := 42) C dX3_leave_41 rfl rfl ?_
      refine l_X3_leave C hR hh hi hm2 (X.hr4 hh) (hrN I h) 0 0 I P X hm (X.hr hh) nI_0.symm (by omega) ⟨rfl, ?_, ?_⟩ <;> simp [lvR, c1, hn, hcl]
    · have hx : I 3 h 6 < 0 ∨ 4 ≤ I 3 h 6 := hx
      refine k_X3_42 (pc' := 39) C (m_X3_interpreterAtN hx) dX3_leave_36 (by first | assumption | exact rfl | exact al13 rfl | exact Nat.le_of_ble_eq_true rfl) ⟨⟨Nat.le_of_ble_eq_true rfl, Nat.le_of_ble_eq_true rfl⟩, rfl, rfl⟩ (Nat.le_of_ble_eq_true rfl) ⟨Nat.zero_le _, Nat.zero_le _⟩ rfl ?_
      refine g_astore_nN (pc' := 40) C dX3_leave_39 rfl rfl ?_
      refine g_iconst (v := 0) (pc' := 41) C dX3_leave_40 (by decide) rfl ?_
      refine g_istore_n (pc' := 42) C dX3_leave_41 rfl rfl ?_
      refine g_aload_nN (pc' := 43) C dX3_leave_42 rfl rfl ?_
      refine g_ifnullN (tgt := 89) C dX3_leave_43 (by decide) ?_
      exact g_vret C hR dX3_leave_89 ⟨rfl, by simp [lvR, c1, hx], by simp [lvR, c1, hx]⟩
  ·
    refine g_aload_n (pc' := 15) C dX3_leave_14 rfl rfl ?_
    refine f_X3_161 (pc' := 18) C hm dX3_leave_15 (by first | assumption | exact rfl | exact al13 rfl | exact Nat.le_of_ble_eq_true rfl) rfl ?_
    refine g_dup (pc' := 19) C dX3_leave_18 rfl rfl ?_
    refine f_X3_85 (pc' := 22) C dX3_leave_19 (by first | assumption | exact rfl | exact al13 rfl | exact Nat.le_of_ble_eq_true rfl) rfl ?_
    refine g_aload_n (pc' := 23) C dX3_leave_22 rfl rfl ?_
    refine k_X3_248 (pc' := 26) C (m_X0_charged hh) dX3_leave_23 (by first | assumption | exact rfl | exact al13 rfl | exact Nat.le_of_ble_eq_true rfl) ⟨⟨Nat.le_of_ble_eq_true rfl, Nat.le_of_ble_eq_true rfl⟩, rfl, rfl⟩ (Nat.le_of_ble_eq_true rfl) ⟨Nat.zero_le _, Nat.zero_le _⟩ rfl ?_
    refine g_iadd (pc' := 27) C dX3_leave_26 rfl ?_
    refine p_X3_85 (pc' := 30) C dX3_leave_27 (by first | assumption | exact rfl | exact al13 rfl | exact Nat.le_of_ble_eq_true rfl) rfl ?_
    exact g_vret C hR dX3_leave_30 ⟨rfl, by simp [lvR, c1], by simp [lvR, c1]⟩
end WMove
