section WCalls
abbrev pX (k : Int32) (g : wG) (z : wZ) (v : Option Value) (I1 : wI) (P1 : wP) (O1 : wO) : wPost := fun v' g' z' I' P' O' => k = 0 ∧ v' = v ∧ g' = g ∧ z' = z ∧ I' = I1 ∧ P' = P1 ∧ O' = O1
abbrev xE (es : List (Int32 × String)) (k : Int32) : String → Prop := fun E => ∃ j, (j, E) ∈ es ∧ k = j
def cK0 (x y w : Int32) : Int32 := if oM x 4 = true then 1 else if y < 0 ∨ 15 < y ∨ w < 1 ∨ 99 < w then 2 else 0
def cO0 (I : wI) (x y w : Int32) : wI := upI (upI I 1 x.toNatClampNeg 0 y) 1 x.toNatClampNeg 1 w
def cK1 (x : Int32) : Int32 := if x < 0 ∨ ¬ x < 6 then 1 else 0
def cK3 (M : Nat) (x y : Int32) : Int32 := if oM x M = true then 1 else if y < 1 ∨ 9999 < y then 2 else 0
def cKs (I : wI) (M : Nat) (x s : Int32) : Int32 := if oM x M = true then 1 else if I 2 x.toNatClampNeg 5 = s then 0 else 2
def cO4 (I : wI) (P : wP) (z : wZ) (x : Int32) : wI × wP × Int32 := daL x.toNatClampNeg z.2 0 (upI I 2 x.toNatClampNeg 5 2, P, 0)
def cK5 (I : wI) (M : Nat) (x : Int32) : Int32 := if oM x M = true then 1 else if I 2 x.toNatClampNeg 5 = 2 ∧ 0 ≤ I 2 x.toNatClampNeg 6 then 0 else 2
def cO5 (I : wI) (x : Int32) : wI := upI (upI I 2 x.toNatClampNeg 5 3) 2 x.toNatClampNeg 6 (I 2 x.toNatClampNeg 6 - ff I x.toNatClampNeg 80)
def tbg (I : wI) (h : Nat) : Bool := decide (I 3 h 4 = 0) && !decide (I 3 h 7 ≤ I 0 0 6)
def putC (I : wI) (P : wP) (h : Nat) (r w a : Int32) : wI × wP := if w < 0 ∨ 4 ≤ w then (putN I P h r w a, P) else putS I P h w.toNatClampNeg r w a
def inN (x : Int32) : Bool := decide (x = -1) || inn x 4
def cK9 (I : wI) (P : wP) (N : Nat) (x r w a : Int32) : Int32 := if oM x N = true ∨ inn r 4 = false ∨ inN w = false then 1 else if a ≤ I 0 0 6 ∨ 999 < a then 2 else if tbg I x.toNatClampNeg = false ∨ asN I (mx P x.toNatClampNeg) w = false ∨ ¬ crL I P (some x.toNatClampNeg) (mx P x.toNatClampNeg) r w a (I 3 x.toNatClampNeg 2) N 0 0 = 0 then 3 else 0
def cO9 (I : wI) (P : wP) (x r w a : Int32) : wI × wP := putC (lvR I P x.toNatClampNeg).1 (lvR I P x.toNatClampNeg).2 x.toNatClampNeg r w a
def cK10 (I : wI) (N : Nat) (x : Int32) : Int32 := if oM x N = true then 1 else if tbg I x.toNatClampNeg = false then 2 else 0
def cO10 (I : wI) (P : wP) (x : Int32) : wI × wP := (upI (lvR I P x.toNatClampNeg).1 3 x.toNatClampNeg 4 3, (lvR I P x.toNatClampNeg).2)
def cK11 (I : wI) (P : wP) (N : Nat) (x y : Int32) : Int32 := if oM x N = true ∨ inn y 6 = false then 1 else if (decide (y = I 2 (mx P x.toNatClampNeg) 2) || decide (y = I 2 (mx P x.toNatClampNeg) 3)) = false then 2 else if I 3 x.toNatClampNeg 4 = 0 then 0 else 3
def cO11 (I : wI) (P : wP) (x y : Int32) : wI × Int32 := if I 3 x.toNatClampNeg 7 - I 0 0 6 < 4 then (I, 0) else (tl I (mx P x.toNatClampNeg) x.toNatClampNeg y, 1)
def cPS (P : wP) (z : wZ) (s : wI × Int32) : wI × Int32 := (rtL ((ehL P z.2 0 (upI s.1 0 0 6 (s.1 0 0 6 + 1), 0)).1 0 0 6) z.1 0 (ehL P z.2 0 (upI s.1 0 0 6 (s.1 0 0 6 + 1), 0)).1, s.2 + (ehL P z.2 0 (upI s.1 0 0 6 (s.1 0 0 6 + 1), 0)).2)
def cPL (P : wP) (z : wZ) : Nat → wI × Int32 → wI × Int32
  | 0, s => s
  | n + 1, s => cPL P z n (cPS P z s)
def cK12 (now x : Int32) : Int32 := if x < 1 ∨ ¬ x ≤ 50 then 1 else if ¬ now + x ≤ 1000 then 2 else 0
def cK13 (M : Nat) (x r w a y : Int32) : Int32 := if oM x M = true ∨ inn r 4 = false ∨ inN w = false then 1 else if a < 0 ∨ 999 < a ∨ y < 1 ∨ 4 < y then 2 else 0
def hmN (x : Int32) : Int32 := if x = 0 then 4 else if x = 1 then 4 else if x = 2 then 6 else 4
def ich (x : Int32) : Bool := !decide (x < 0) && !decide (1003 < x)
def cK14 (x y w : Int32) : Int32 := if inn x 4 = false then 1 else if inn y (hmN x) = false ∨ ich w = false then 2 else 0
def caL (I : wI) (P : wP) (x y w : Int32) : Nat → Nat → Int32
  | 0, _ => -1
  | n + 1, h => if tp I h w 1 = true ∧ nd I (mx P h) h x y = true then I 3 h 0 else caL I P x y w n (h + 1)
def cK15 (M : Nat) (x y : Int32) : Int32 := if oM x M = true then 1 else if inn y 8 = true then 0 else 2
def cV15 (I : wI) (P : wP) (m : Nat) (y : Int32) : Int32 := if y = 0 then I 2 m 5 else if y = 1 then I 2 m 1 else if y = 2 then I 2 m 2 else if y = 3 then I 2 m 3 else if y = 4 then I 2 m 4 else if y = 5 then I 2 m 6 else if y = 6 then I 2 m 7 else phO I P m
def cV16 (I : wI) (P : wP) (h : Nat) (y : Int32) : Int32 := if y = 0 then I 3 h 4 else if y = 1 then I 2 (mx P h) 0 else if y = 2 then I 3 h 5 else if y = 3 then I 3 h 6 else if y = 4 then I 3 h 7 else if y = 5 then I 3 h 2 else if y = 6 then ntc I h else chg I h
def cK17 (x y : Int32) : Int32 := if oM x 4 = true ∨ ich y = false then 1 else 0
def cV17 (I : wI) (P : wP) (x y : Int32) : Int32 := match py I P x.toNatClampNeg y (I 0 0 6) with
  | none => -1
  | some q => I 2 q 0
theorem XI.ptL' {z : wZ} {i m h : Nat} {fr now : Int32} : ∀ (n k : Nat) (s : wI × wP), XI z s.1 s.2 → XI z (ptL i m h fr now n k s).1 (ptL i m h fr now n k s).2
  | 0, _, _, X => X
  | n + 1, k, s, X => XI.ptL' n (k + 1) _ X.pt
theorem XI.p0L' {z : wZ} {h : Nat} {P : wP} : ∀ (n k : Nat) (I : wI), XI z I P → XI z (p0L h n k I) P
  | 0, _, _, X => X
  | n + 1, k, I, X => XI.p0L' n (k + 1) _ (XI.upI X _ (by omega) (by omega) (by omega))
theorem XI.putS {z : wZ} {I : wI} {P : wP} (X : XI z I P) {h i : Nat} {r x f : Int32} : XI z (putS I P h i r x f).1 (putS I P h i r x f).2 := XI.upI (XI.ptL' _ _ _ X.sA) _ (by omega) (by omega) (by omega)
theorem XI.putN {z : wZ} {I : wI} {P : wP} (X : XI z I P) {h : Nat} {r x f : Int32} : XI z (putN I P h r x f) P := XI.upI (XI.p0L' _ _ _ X.sA) _ (by omega) (by omega) (by omega)
theorem XI.ehL' {z : wZ} {P : wP} : ∀ (n h : Nat) (s : wI × Int32), XI z s.1 P → XI z (ehL P n h s).1 P
  | 0, _, _, X => X
  | n + 1, h, s, X => XI.ehL' n (h + 1) _ X.eh
theorem XI.rtL' {z : wZ} {P : wP} {now : Int32} : ∀ (n m : Nat) (I : wI), XI z I P → XI z (rtL now n m I) P
  | 0, _, _, X => X
  | n + 1, m, I, X => XI.rtL' n (m + 1) _ X.rT
theorem XI.cPS {z : wZ} {P : wP} {s : wI × Int32} (X : XI z s.1 P) : XI z (cPS P z s).1 P := XI.rtL' _ _ _ (XI.ehL' _ _ _ (XI.upI X _ (by omega) (by omega) (by omega)))
set_option maxRecDepth 20000 in
theorem m_X3_interpreter {l : Launch} (hfl : l.stackTraces = false) {g : wG} {z : wZ} {I : wI} {P : wP} {O : wO} {x y w : Int32} (X : XI z I P) (sz : Nat) : XT l yX3_interpreter (.code yX3_interpreter cX3_interpreter 6 ((some .int))) { frames := 6, cells := 1, slots := 6, locals := 90 } g z sz [.ref (g.2.2 0 0), .int x, .int y, .int w] I P O 1 6 (pX (cK0 x y w) g z (some (.int (I 1 x.toNatClampNeg 1))) (cO0 I x y w) (P) O) (xE [(1, tI), (2, tA)] (cK0 x y w)) := by
  refine XT.of (own := RX3) rfl (by decide +kernel) hfl (Nat.le_of_ble_eq_true rfl) rfl (fun K C hl hg hR hT => ?_)
  subst hl
  subst hg
  refine g_aload_n (pc' := 1) C dX3_interpreter_0 rfl rfl ?_
  refine g_iload_n (pc' := 2) C dX3_interpreter_1 rfl rfl ?_
  rcases in_of x 4 (by decide) with ⟨j, hj, hxj⟩ | hx
  · have hn : oM x 4 = false := oM_F hj hxj (by decide)
    have hcl : x.toNatClampNeg = j := by rw [hxj]; exact nI_clamp (by have := X.1; have := X.2.1; omega)
    have hi : wAl z 1 j := hj
    refine k_X3_42 (pc' := 5) C (m_X3_interpreterAtS hxj hj (X.2.2.2.2.2.2.1 j hj)) dX3_interpreter_2 (by first | assumption | exact rfl | exact al13 rfl | exact Nat.le_of_ble_eq_true rfl) ⟨⟨Nat.le_of_ble_eq_true rfl, Nat.le_of_ble_eq_true rfl⟩, rfl, rfl⟩ (Nat.le_of_ble_eq_true rfl) ⟨Nat.zero_le _, Nat.zero_le _⟩ rfl ?_
    refine g_astore (pc' := 7) C dX3_interpreter_5 rfl rfl ?_
    refine g_aload (pc' := 9) C dX3_interpreter_7 rfl rfl ?_
    refine g_ifnonnull (tgt := 22) C dX3_interpreter_9 (by decide) ?_
    refine g_iload_n (pc' := 23) C dX3_interpreter_22 rfl rfl ?_
    refine g_if_lt (tgt := 43) (pc' := 26) C dX3_interpreter_23 (by decide) rfl (fun c1 => ?_) (fun c1 => ?_)
    ·
      exact x_thr C hR hT xwA (List.mem_of_getElem? (i := 1) rfl) ⟨⟨Nat.le_of_ble_eq_true rfl, Nat.le_of_ble_eq_true rfl⟩, Nat.le_of_ble_eq_true rfl, Nat.le_of_ble_eq_true rfl⟩ ⟨Nat.le_of_ble_eq_true rfl, Nat.le_of_ble_eq_true rfl⟩ dX3_interpreter_43 dX3_interpreter_46 dX3_interpreter_47 dX3_interpreter_49 dX3_interpreter_52 ⟨2, List.mem_of_getElem? (i := 1) rfl, by simp [cK0, hn, hcl, c1]⟩
    ·
      refine g_iload_n (pc' := 27) C dX3_interpreter_26 rfl rfl ?_
      refine g_bipush (v := 15) (pc' := 29) C dX3_interpreter_27 (by decide) rfl ?_
      refine g_icmp_gt (tgt := 43) (pc' := 32) C dX3_interpreter_29 (by decide) rfl (fun c2 => ?_) (fun c2 => ?_)
      ·
        exact x_thr C hR hT xwA (List.mem_of_getElem? (i := 1) rfl) ⟨⟨Nat.le_of_ble_eq_true rfl, Nat.le_of_ble_eq_true rfl⟩, Nat.le_of_ble_eq_true rfl, Nat.le_of_ble_eq_true rfl⟩ ⟨Nat.le_of_ble_eq_true rfl, Nat.le_of_ble_eq_true rfl⟩ dX3_interpreter_43 dX3_interpreter_46 dX3_interpreter_47 dX3_interpreter_49 dX3_interpreter_52 ⟨2, List.mem_of_getElem? (i := 1) rfl, by simp [cK0, hn, hcl, c1, c2]⟩
      ·
        refine g_iload_n (pc' := 33) C dX3_interpreter_32 rfl rfl ?_
        refine g_iconst (v := 1) (pc' := 34) C dX3_interpreter_33 (by decide) rfl ?_
        refine g_icmp_lt (tgt := 43) (pc' := 37) C dX3_interpreter_34 (by decide) rfl (fun c3 => ?_) (fun c3 => ?_)
        ·
          exact x_thr C hR hT xwA (List.mem_of_getElem? (i := 1) rfl) ⟨⟨Nat.le_of_ble_eq_true rfl, Nat.le_of_ble_eq_true rfl⟩, Nat.le_of_ble_eq_true rfl, Nat.le_of_ble_eq_true rfl⟩ ⟨Nat.le_of_ble_eq_true rfl, Nat.le_of_ble_eq_true rfl⟩ dX3_interpreter_43 dX3_interpreter_46 dX3_interpreter_47 dX3_interpreter_49 dX3_interpreter_52 ⟨2, List.mem_of_getElem? (i := 1) rfl, by simp [cK0, hn, hcl, c1, c2, c3]⟩
        ·
          refine g_iload_n (pc' := 38) C dX3_interpreter_37 rfl rfl ?_
          refine g_bipush (v := 99) (pc' := 40) C dX3_interpreter_38 (by decide) rfl ?_
          refine g_icmp_le (tgt := 53) (pc' := 43) C dX3_interpreter_40 (by decide) rfl (fun c4 => ?_) (fun c4 => ?_)
          ·
            refine g_aload (pc' := 55) C dX3_interpreter_53 rfl rfl ?_
            refine f_X3_58 (pc' := 58) C dX3_interpreter_55 (by first | assumption | exact rfl | exact al13 rfl | exact Nat.le_of_ble_eq_true rfl) rfl ?_
            refine g_istore (pc' := 60) C dX3_interpreter_58 rfl rfl ?_
            refine g_aload (pc' := 62) C dX3_interpreter_60 rfl rfl ?_
            refine g_iload_n (pc' := 63) C dX3_interpreter_62 rfl rfl ?_
            refine p_X3_61 (pc' := 66) C dX3_interpreter_63 (by first | assumption | exact rfl | exact al13 rfl | exact Nat.le_of_ble_eq_true rfl) rfl ?_
            refine g_aload (pc' := 68) C dX3_interpreter_66 rfl rfl ?_
            refine g_iload_n (pc' := 69) C dX3_interpreter_68 rfl rfl ?_
            refine p_X3_58 (pc' := 72) C dX3_interpreter_69 (by first | assumption | exact rfl | exact al13 rfl | exact Nat.le_of_ble_eq_true rfl) rfl ?_
            refine g_iload (pc' := 74) C dX3_interpreter_72 rfl rfl ?_
            exact x_iret C hR dX3_interpreter_74 (Nat.le_of_ble_eq_true rfl) (Nat.le_of_ble_eq_true rfl) ⟨by simp [cK0, cO0, hn, hcl, c1, c2, c3, c4], by simp [cK0, cO0, hn, hcl, c1, c2, c3, c4], rfl, rfl, by simp [cK0, cO0, hn, hcl, c1, c2, c3, c4], rfl, rfl⟩
          ·
            exact x_thr C hR hT xwA (List.mem_of_getElem? (i := 1) rfl) ⟨⟨Nat.le_of_ble_eq_true rfl, Nat.le_of_ble_eq_true rfl⟩, Nat.le_of_ble_eq_true rfl, Nat.le_of_ble_eq_true rfl⟩ ⟨Nat.le_of_ble_eq_true rfl, Nat.le_of_ble_eq_true rfl⟩ dX3_interpreter_43 dX3_interpreter_46 dX3_interpreter_47 dX3_interpreter_49 dX3_interpreter_52 ⟨2, List.mem_of_getElem? (i := 1) rfl, by simp [cK0, hn, hcl, c1, c2, c3, c4]⟩
  · have hn : oM x 4 = true := oM_T hx
    have hx : x < 0 ∨ 4 ≤ x := hx
    refine k_X3_42 (pc' := 5) C (m_X3_interpreterAtN hx) dX3_interpreter_2 (by first | assumption | exact rfl | exact al13 rfl | exact Nat.le_of_ble_eq_true rfl) ⟨⟨Nat.le_of_ble_eq_true rfl, Nat.le_of_ble_eq_true rfl⟩, rfl, rfl⟩ (Nat.le_of_ble_eq_true rfl) ⟨Nat.zero_le _, Nat.zero_le _⟩ rfl ?_
    refine g_astoreN (pc' := 7) C dX3_interpreter_5 rfl rfl ?_
    refine g_aloadN (pc' := 9) C dX3_interpreter_7 rfl rfl ?_
    refine g_ifnonnullN (pc' := 12) C dX3_interpreter_9 rfl ?_
    exact x_thr C hR hT xwI (List.mem_of_getElem? (i := 0) rfl) ⟨⟨Nat.le_of_ble_eq_true rfl, Nat.le_of_ble_eq_true rfl⟩, Nat.le_of_ble_eq_true rfl, Nat.le_of_ble_eq_true rfl⟩ ⟨Nat.le_of_ble_eq_true rfl, Nat.le_of_ble_eq_true rfl⟩ dX3_interpreter_12 dX3_interpreter_15 dX3_interpreter_16 dX3_interpreter_18 dX3_interpreter_21 ⟨1, List.mem_of_getElem? (i := 0) rfl, by simp [cK0, hn]⟩
set_option maxRecDepth 20000 in
theorem m_X3_waive {l : Launch} (hfl : l.stackTraces = false) {g : wG} {z : wZ} {I : wI} {P : wP} {O : wO} {x y : Int32} (hy : vp_nar .boolean y = y) (h01 : ∀ j, j < 6 → I 5 0 j = 0 ∨ I 5 0 j = 1) (sz : Nat) : XT l yX3_waive (.code yX3_waive cX3_waive 4 ((some .boolean))) { frames := 6, cells := 1, slots := 6, locals := 90 } g z sz [.ref (g.2.2 0 0), .int x, .int y] I P O 1 6 (pX (cK1 x) g z (some (.int (I 5 0 x.toNatClampNeg))) (upI I 5 0 x.toNatClampNeg y) (P) O) (xE [(1, tI)] (cK1 x)) := by
  refine XT.of (own := RX3) rfl (by decide +kernel) hfl (Nat.le_of_ble_eq_true rfl) rfl (fun K C hl hg hR hT => ?_)
  subst hl
  subst hg
  refine g_iload_n (pc' := 1) C dX3_waive_0 rfl rfl ?_
  refine g_if_lt (tgt := 13) (pc' := 4) C dX3_waive_1 (by decide) rfl (fun c1 => ?_) (fun c1 => ?_)
  ·
    exact x_thr C hR hT xwI (List.mem_of_getElem? (i := 2) rfl) ⟨⟨Nat.le_of_ble_eq_true rfl, Nat.le_of_ble_eq_true rfl⟩, Nat.le_of_ble_eq_true rfl, Nat.le_of_ble_eq_true rfl⟩ ⟨Nat.le_of_ble_eq_true rfl, Nat.le_of_ble_eq_true rfl⟩ dX3_waive_13 dX3_waive_16 dX3_waive_17 dX3_waive_19 dX3_waive_22 ⟨1, List.mem_of_getElem? (i := 0) rfl, by simp [cK1, c1]⟩
  ·
    refine g_iload_n (pc' := 5) C dX3_waive_4 rfl rfl ?_
    refine g_aload_n (pc' := 6) C dX3_waive_5 rfl rfl ?_
    refine f_X3_15 (pc' := 9) C dX3_waive_6 (by first | assumption | exact rfl | exact al13 rfl | exact Nat.le_of_ble_eq_true rfl) rfl ?_
    refine g_alen (pc' := 10) (v := 6) (t0 := 1) C dX3_waive_9 (by first | assumption | exact rfl | exact al13 rfl | exact Nat.le_of_ble_eq_true rfl) rfl rfl rfl rfl ?_
    refine g_icmp_lt (tgt := 23) (pc' := 13) C dX3_waive_10 (by decide) rfl (fun c2 => ?_) (fun c2 => ?_)
    ·
      obtain ⟨j, hj, hxj⟩ := (in_of x 6 (by decide)).resolve_right (fun e => e.elim c1 (fun e2 => absurd c2 (Int32.not_lt.mpr e2)))
      have hcl : x.toNatClampNeg = j := by rw [hxj]; exact nI_clamp (by omega)
      refine g_aload_n (pc' := 24) C dX3_waive_23 rfl rfl ?_
      refine f_X3_15 (pc' := 27) C dX3_waive_24 (by first | assumption | exact rfl | exact al13 rfl | exact Nat.le_of_ble_eq_true rfl) rfl ?_
      refine g_iload_n (pc' := 28) C dX3_waive_27 rfl rfl ?_
      refine g_zald (pc' := 29) C (j) hxj hj dX3_waive_28 (by first | assumption | exact rfl | exact al13 rfl | exact Nat.le_of_ble_eq_true rfl) rfl rfl rfl ?_
      refine g_istore_n (pc' := 30) C dX3_waive_29 rfl rfl ?_
      refine g_aload_n (pc' := 31) C dX3_waive_30 rfl rfl ?_
      refine f_X3_15 (pc' := 34) C dX3_waive_31 (by first | assumption | exact rfl | exact al13 rfl | exact Nat.le_of_ble_eq_true rfl) rfl ?_
      refine g_iload_n (pc' := 35) C dX3_waive_34 rfl rfl ?_
      refine g_iload_n (pc' := 36) C dX3_waive_35 rfl rfl ?_
      refine g_zast (pc' := 37) C (j) hxj hj hy dX3_waive_36 (by first | assumption | exact rfl | exact al13 rfl | exact Nat.le_of_ble_eq_true rfl) (fun _ => rfl) rfl rfl ?_
      refine g_iload_n (pc' := 38) C dX3_waive_37 rfl rfl ?_
      exact x_zret C hR dX3_waive_38 (by rcases h01 j hj with e | e <;> rw [e] <;> rfl) (Nat.le_of_ble_eq_true rfl) (Nat.le_of_ble_eq_true rfl) ⟨by simp [cK1, c1, c2, hcl], by simp [c1, c2, hcl], rfl, rfl, by simp [c1, c2, hcl], rfl, rfl⟩
    ·
      exact x_thr C hR hT xwI (List.mem_of_getElem? (i := 2) rfl) ⟨⟨Nat.le_of_ble_eq_true rfl, Nat.le_of_ble_eq_true rfl⟩, Nat.le_of_ble_eq_true rfl, Nat.le_of_ble_eq_true rfl⟩ ⟨Nat.le_of_ble_eq_true rfl, Nat.le_of_ble_eq_true rfl⟩ dX3_waive_13 dX3_waive_16 dX3_waive_17 dX3_waive_19 dX3_waive_22 ⟨1, List.mem_of_getElem? (i := 0) rfl, by simp [cK1, c1, c2]⟩
set_option maxRecDepth 20000 in
theorem m_X3_pay {l : Launch} (hfl : l.stackTraces = false) {g : wG} {z : wZ} {I : wI} {P : wP} {O : wO} {x y : Int32} (X : XI z I P) (sz : Nat) : XT l yX3_pay (.code yX3_pay cX3_pay 4 ((some .int))) { frames := 6, cells := 1, slots := 6, locals := 90 } g z sz [.ref (g.2.2 0 0), .int x, .int y] I P O 1 6 (pX (cK3 z.1 x y) g z (some (.int (I 2 x.toNatClampNeg 6 + y))) (upI I 2 x.toNatClampNeg 6 (I 2 x.toNatClampNeg 6 + y)) (P) O) (xE [(1, tI), (2, tA)] (cK3 z.1 x y)) := by
  refine XT.of (own := RX3) rfl (by decide +kernel) hfl (Nat.le_of_ble_eq_true rfl) rfl (fun K C hl hg hR hT => ?_)
  subst hl
  subst hg
  refine g_aload_n (pc' := 1) C dX3_pay_0 rfl rfl ?_
  refine g_iload_n (pc' := 2) C dX3_pay_1 rfl rfl ?_
  rcases in_of x z.1 (by have := X.1; have := X.2.1; omega) with ⟨j, hj, hxj⟩ | hx
  · have hn : oM x z.1 = false := oM_F hj hxj (by have := X.1; have := X.2.1; omega)
    have hcl : x.toNatClampNeg = j := by rw [hxj]; exact nI_clamp (by have := X.1; have := X.2.1; omega)
    have hm2 : wAl z 2 j := hj
    refine k_X3_95 (pc' := 5) C (m_X3_matterAtS X hxj hj) dX3_pay_2 (by first | assumption | exact rfl | exact al13 rfl | exact Nat.le_of_ble_eq_true rfl) ⟨⟨Nat.le_of_ble_eq_true rfl, Nat.le_of_ble_eq_true rfl⟩, rfl, rfl⟩ (Nat.le_of_ble_eq_true rfl) ⟨Nat.zero_le _, Nat.zero_le _⟩ rfl ?_
    refine g_astore_n (pc' := 6) C dX3_pay_5 rfl rfl ?_
    refine g_aload_n (pc' := 7) C dX3_pay_6 rfl rfl ?_
    refine g_ifnonnull (tgt := 20) C dX3_pay_7 (by decide) ?_
    refine g_iload_n (pc' := 21) C dX3_pay_20 rfl rfl ?_
    refine g_iconst (v := 1) (pc' := 22) C dX3_pay_21 (by decide) rfl ?_
    refine g_icmp_lt (tgt := 32) (pc' := 25) C dX3_pay_22 (by decide) rfl (fun c1 => ?_) (fun c1 => ?_)
    ·
      exact x_thr C hR hT xwA (List.mem_of_getElem? (i := 25) rfl) ⟨⟨Nat.le_of_ble_eq_true rfl, Nat.le_of_ble_eq_true rfl⟩, Nat.le_of_ble_eq_true rfl, Nat.le_of_ble_eq_true rfl⟩ ⟨Nat.le_of_ble_eq_true rfl, Nat.le_of_ble_eq_true rfl⟩ dX3_pay_32 dX3_pay_35 dX3_pay_36 dX3_pay_38 dX3_pay_41 ⟨2, List.mem_of_getElem? (i := 1) rfl, by simp [cK3, hn, hcl, c1]⟩
    ·
      refine g_iload_n (pc' := 26) C dX3_pay_25 rfl rfl ?_
      refine g_sipush (v := 9999) (pc' := 29) C dX3_pay_26 (by decide) rfl ?_
      refine g_icmp_le (tgt := 42) (pc' := 32) C dX3_pay_29 (by decide) rfl (fun c2 => ?_) (fun c2 => ?_)
      ·
        refine g_aload_n (pc' := 43) C dX3_pay_42 rfl rfl ?_
        refine g_dup (pc' := 44) C dX3_pay_43 rfl rfl ?_
        refine f_X3_85 (pc' := 47) C dX3_pay_44 (by first | assumption | exact rfl | exact al13 rfl | exact Nat.le_of_ble_eq_true rfl) rfl ?_
        refine g_iload_n (pc' := 48) C dX3_pay_47 rfl rfl ?_
        refine g_iadd (pc' := 49) C dX3_pay_48 rfl ?_
        refine p_X3_85 (pc' := 52) C dX3_pay_49 (by first | assumption | exact rfl | exact al13 rfl | exact Nat.le_of_ble_eq_true rfl) rfl ?_
        refine g_aload_n (pc' := 53) C dX3_pay_52 rfl rfl ?_
        refine f_X3_85 (pc' := 56) C dX3_pay_53 (by first | assumption | exact rfl | exact al13 rfl | exact Nat.le_of_ble_eq_true rfl) rfl ?_
        exact x_iret C hR dX3_pay_56 (Nat.le_of_ble_eq_true rfl) (Nat.le_of_ble_eq_true rfl) ⟨by simp [cK3, upI_at, hn, hcl, c1, c2], by simp [cK3, upI_at, hn, hcl, c1, c2], rfl, rfl, by simp [cK3, upI_at, hn, hcl, c1, c2], rfl, rfl⟩
      ·
        exact x_thr C hR hT xwA (List.mem_of_getElem? (i := 25) rfl) ⟨⟨Nat.le_of_ble_eq_true rfl, Nat.le_of_ble_eq_true rfl⟩, Nat.le_of_ble_eq_true rfl, Nat.le_of_ble_eq_true rfl⟩ ⟨Nat.le_of_ble_eq_true rfl, Nat.le_of_ble_eq_true rfl⟩ dX3_pay_32 dX3_pay_35 dX3_pay_36 dX3_pay_38 dX3_pay_41 ⟨2, List.mem_of_getElem? (i := 1) rfl, by simp [cK3, hn, hcl, c1, c2]⟩
  · have hn : oM x z.1 = true := oM_T hx
    refine k_X3_95 (pc' := 5) C (m_X3_matterAtN X hx) dX3_pay_2 (by first | assumption | exact rfl | exact al13 rfl | exact Nat.le_of_ble_eq_true rfl) ⟨⟨Nat.le_of_ble_eq_true rfl, Nat.le_of_ble_eq_true rfl⟩, rfl, rfl⟩ (Nat.le_of_ble_eq_true rfl) ⟨Nat.zero_le _, Nat.zero_le _⟩ rfl ?_
    refine g_astore_nN (pc' := 6) C dX3_pay_5 rfl rfl ?_
    refine g_aload_nN (pc' := 7) C dX3_pay_6 rfl rfl ?_
    refine g_ifnonnullN (pc' := 10) C dX3_pay_7 rfl ?_
    exact x_thr C hR hT xwI (List.mem_of_getElem? (i := 17) rfl) ⟨⟨Nat.le_of_ble_eq_true rfl, Nat.le_of_ble_eq_true rfl⟩, Nat.le_of_ble_eq_true rfl, Nat.le_of_ble_eq_true rfl⟩ ⟨Nat.le_of_ble_eq_true rfl, Nat.le_of_ble_eq_true rfl⟩ dX3_pay_10 dX3_pay_13 dX3_pay_14 dX3_pay_16 dX3_pay_19 ⟨1, List.mem_of_getElem? (i := 0) rfl, by simp [cK3, hn]⟩
set_option maxRecDepth 20000 in
theorem m_X3_decide {l : Launch} (hfl : l.stackTraces = false) {g : wG} {z : wZ} {I : wI} {P : wP} {O : wO} {x : Int32} (X : XI z I P) (sz : Nat) : XT l yX3_decide (.code yX3_decide cX3_decide 3 ((some .int))) { frames := 6, cells := 1, slots := 6, locals := 91 } g z sz [.ref (g.2.2 0 0), .int x] I P O 1 6 (pX (cKs I z.1 x 1) g z (some (.int (cO4 I P z x).2.2)) ((cO4 I P z x).1) ((cO4 I P z x).2.1) O) (xE [(1, tI), (2, tS)] (cKs I z.1 x 1)) := by
  refine XT.of (own := RX3) rfl (by decide +kernel) hfl (Nat.le_of_ble_eq_true rfl) rfl (fun K C hl hg hR hT => ?_)
  subst hl
  subst hg
  refine g_aload_n (pc' := 1) C dX3_decide_0 rfl rfl ?_
  refine g_iload_n (pc' := 2) C dX3_decide_1 rfl rfl ?_
  rcases in_of x z.1 (by have := X.1; have := X.2.1; omega) with ⟨j, hj, hxj⟩ | hx
  · have hn : oM x z.1 = false := oM_F hj hxj (by have := X.1; have := X.2.1; omega)
    have hcl : x.toNatClampNeg = j := by rw [hxj]; exact nI_clamp (by have := X.1; have := X.2.1; omega)
    have hm2 : wAl z 2 j := hj
    refine k_X3_95 (pc' := 5) C (m_X3_matterAtS X hxj hj) dX3_decide_2 (by first | assumption | exact rfl | exact al13 rfl | exact Nat.le_of_ble_eq_true rfl) ⟨⟨Nat.le_of_ble_eq_true rfl, Nat.le_of_ble_eq_true rfl⟩, rfl, rfl⟩ (Nat.le_of_ble_eq_true rfl) ⟨Nat.zero_le _, Nat.zero_le _⟩ rfl ?_
    refine g_astore_n (pc' := 6) C dX3_decide_5 rfl rfl ?_
    refine g_aload_n (pc' := 7) C dX3_decide_6 rfl rfl ?_
    refine g_ifnonnull (tgt := 20) C dX3_decide_7 (by decide) ?_
    refine g_aload_n (pc' := 21) C dX3_decide_20 rfl rfl ?_
    refine f_X3_103 (pc' := 24) C dX3_decide_21 (by first | assumption | exact rfl | exact al13 rfl | exact Nat.le_of_ble_eq_true rfl) rfl ?_
    refine g_iconst (v := 1) (pc' := 25) C dX3_decide_24 (by decide) rfl ?_
    refine g_icmp_eq (tgt := 38) (pc' := 28) C dX3_decide_25 (by decide) rfl (fun c1 => ?_) (fun c1 => ?_)
    ·
      refine g_aload_n (pc' := 39) C dX3_decide_38 rfl rfl ?_
      refine g_iconst (v := 2) (pc' := 40) C dX3_decide_39 (by decide) rfl ?_
      refine p_X3_103 (pc' := 43) C dX3_decide_40 (by first | assumption | exact rfl | exact al13 rfl | exact Nat.le_of_ble_eq_true rfl) rfl ?_
      refine g_aload_n (pc' := 44) C dX3_decide_43 rfl rfl ?_
      refine g_aload_n (pc' := 45) C dX3_decide_44 rfl rfl ?_
      refine k_X3_108 (pc' := 48) C (m_X3_dropAllOf (XI.upI X _ (by omega) (by omega) (by omega)) hm2) dX3_decide_45 (by first | assumption | exact rfl | exact al13 rfl | exact Nat.le_of_ble_eq_true rfl) ⟨⟨Nat.le_of_ble_eq_true rfl, Nat.le_of_ble_eq_true rfl⟩, rfl, rfl⟩ (Nat.le_of_ble_eq_true rfl) ⟨Nat.zero_le _, Nat.zero_le _⟩ rfl ?_
      exact x_iret C hR dX3_decide_48 (Nat.le_of_ble_eq_true rfl) (Nat.le_of_ble_eq_true rfl) ⟨by simp [cKs, cO4, hn, hcl, c1], by simp [cKs, cO4, hn, hcl, c1], rfl, rfl, by simp [cKs, cO4, hn, hcl, c1], by simp [cKs, cO4, hn, hcl, c1], rfl⟩
    ·
      exact x_thr C hR hT xwS (List.mem_of_getElem? (i := 18) rfl) ⟨⟨Nat.le_of_ble_eq_true rfl, Nat.le_of_ble_eq_true rfl⟩, Nat.le_of_ble_eq_true rfl, Nat.le_of_ble_eq_true rfl⟩ ⟨Nat.le_of_ble_eq_true rfl, Nat.le_of_ble_eq_true rfl⟩ dX3_decide_28 dX3_decide_31 dX3_decide_32 dX3_decide_34 dX3_decide_37 ⟨2, List.mem_of_getElem? (i := 1) rfl, by simp [cKs, hn, hcl, c1]⟩
  · have hn : oM x z.1 = true := oM_T hx
    refine k_X3_95 (pc' := 5) C (m_X3_matterAtN X hx) dX3_decide_2 (by first | assumption | exact rfl | exact al13 rfl | exact Nat.le_of_ble_eq_true rfl) ⟨⟨Nat.le_of_ble_eq_true rfl, Nat.le_of_ble_eq_true rfl⟩, rfl, rfl⟩ (Nat.le_of_ble_eq_true rfl) ⟨Nat.zero_le _, Nat.zero_le _⟩ rfl ?_
    refine g_astore_nN (pc' := 6) C dX3_decide_5 rfl rfl ?_
    refine g_aload_nN (pc' := 7) C dX3_decide_6 rfl rfl ?_
    refine g_ifnonnullN (pc' := 10) C dX3_decide_7 rfl ?_
    exact x_thr C hR hT xwI (List.mem_of_getElem? (i := 17) rfl) ⟨⟨Nat.le_of_ble_eq_true rfl, Nat.le_of_ble_eq_true rfl⟩, Nat.le_of_ble_eq_true rfl, Nat.le_of_ble_eq_true rfl⟩ ⟨Nat.le_of_ble_eq_true rfl, Nat.le_of_ble_eq_true rfl⟩ dX3_decide_10 dX3_decide_13 dX3_decide_14 dX3_decide_16 dX3_decide_19 ⟨1, List.mem_of_getElem? (i := 0) rfl, by simp [cKs, hn]⟩
set_option maxRecDepth 20000 in
theorem m_X3_appeal {l : Launch} (hfl : l.stackTraces = false) {g : wG} {z : wZ} {I : wI} {P : wP} {O : wO} {x : Int32} (X : XI z I P) (sz : Nat) : XT l yX3_appeal (.code yX3_appeal cX3_appeal 3 ((some .int))) { frames := 6, cells := 1, slots := 6, locals := 90 } g z sz [.ref (g.2.2 0 0), .int x] I P O 1 6 (pX (cK5 I z.1 x) g z (some (.int (I 2 x.toNatClampNeg 6 - ff I x.toNatClampNeg 80))) (cO5 I x) (P) O) (xE [(1, tI), (2, tS)] (cK5 I z.1 x)) := by
  refine XT.of (own := RX3) rfl (by decide +kernel) hfl (Nat.le_of_ble_eq_true rfl) rfl (fun K C hl hg hR hT => ?_)
  subst hl
  subst hg
  refine g_aload_n (pc' := 1) C dX3_appeal_0 rfl rfl ?_
  refine g_iload_n (pc' := 2) C dX3_appeal_1 rfl rfl ?_
  rcases in_of x z.1 (by have := X.1; have := X.2.1; omega) with ⟨j, hj, hxj⟩ | hx
  · have hn : oM x z.1 = false := oM_F hj hxj (by have := X.1; have := X.2.1; omega)
    have hcl : x.toNatClampNeg = j := by rw [hxj]; exact nI_clamp (by have := X.1; have := X.2.1; omega)
    have hm2 : wAl z 2 j := hj
    refine k_X3_95 (pc' := 5) C (m_X3_matterAtS X hxj hj) dX3_appeal_2 (by first | assumption | exact rfl | exact al13 rfl | exact Nat.le_of_ble_eq_true rfl) ⟨⟨Nat.le_of_ble_eq_true rfl, Nat.le_of_ble_eq_true rfl⟩, rfl, rfl⟩ (Nat.le_of_ble_eq_true rfl) ⟨Nat.zero_le _, Nat.zero_le _⟩ rfl ?_
    refine g_astore_n (pc' := 6) C dX3_appeal_5 rfl rfl ?_
    refine g_aload_n (pc' := 7) C dX3_appeal_6 rfl rfl ?_
    refine g_ifnonnull (tgt := 20) C dX3_appeal_7 (by decide) ?_
    refine g_aload_n (pc' := 21) C dX3_appeal_20 rfl rfl ?_
    refine f_X3_103 (pc' := 24) C dX3_appeal_21 (by first | assumption | exact rfl | exact al13 rfl | exact Nat.le_of_ble_eq_true rfl) rfl ?_
    refine g_iconst (v := 2) (pc' := 25) C dX3_appeal_24 (by decide) rfl ?_
    refine g_icmp_ne (tgt := 35) (pc' := 28) C dX3_appeal_25 (by decide) rfl (fun c1 => ?_) (fun c1 => ?_)
    ·
      exact x_thr C hR hT xwS (List.mem_of_getElem? (i := 19) rfl) ⟨⟨Nat.le_of_ble_eq_true rfl, Nat.le_of_ble_eq_true rfl⟩, Nat.le_of_ble_eq_true rfl, Nat.le_of_ble_eq_true rfl⟩ ⟨Nat.le_of_ble_eq_true rfl, Nat.le_of_ble_eq_true rfl⟩ dX3_appeal_35 dX3_appeal_38 dX3_appeal_39 dX3_appeal_41 dX3_appeal_44 ⟨2, List.mem_of_getElem? (i := 1) rfl, by simp [cK5, hn, hcl, c1]⟩
    ·
      refine g_aload_n (pc' := 29) C dX3_appeal_28 rfl rfl ?_
      refine f_X3_85 (pc' := 32) C dX3_appeal_29 (by first | assumption | exact rfl | exact al13 rfl | exact Nat.le_of_ble_eq_true rfl) rfl ?_
      refine g_if_ge (tgt := 45) (pc' := 35) C dX3_appeal_32 (by decide) rfl (fun c2 => ?_) (fun c2 => ?_)
      ·
        refine g_aload_n (pc' := 46) C dX3_appeal_45 rfl rfl ?_
        refine g_iconst (v := 3) (pc' := 47) C dX3_appeal_46 (by decide) rfl ?_
        refine p_X3_103 (pc' := 50) C dX3_appeal_47 (by first | assumption | exact rfl | exact al13 rfl | exact Nat.le_of_ble_eq_true rfl) rfl ?_
        refine g_aload_n (pc' := 51) C dX3_appeal_50 rfl rfl ?_
        refine g_dup (pc' := 52) C dX3_appeal_51 rfl rfl ?_
        refine f_X3_85 (pc' := 55) C dX3_appeal_52 (by first | assumption | exact rfl | exact al13 rfl | exact Nat.le_of_ble_eq_true rfl) rfl ?_
        refine g_aload_n (pc' := 56) C dX3_appeal_55 rfl rfl ?_
        refine g_aload_n (pc' := 57) C dX3_appeal_56 rfl rfl ?_
        refine g_bipush (v := 80) (pc' := 59) C dX3_appeal_57 (by decide) rfl ?_
        refine k_X3_88 (pc' := 62) C (m_X3_feeFor (XI.upI X _ (by omega) (by omega) (by omega)) hm2) dX3_appeal_59 (by first | assumption | exact rfl | exact al13 rfl | exact Nat.le_of_ble_eq_true rfl) ⟨⟨Nat.le_of_ble_eq_true rfl, Nat.le_of_ble_eq_true rfl⟩, rfl, rfl⟩ (Nat.le_of_ble_eq_true rfl) ⟨Nat.zero_le _, Nat.zero_le _⟩ rfl ?_
        refine g_isub (pc' := 63) C dX3_appeal_62 rfl ?_
        refine p_X3_85 (pc' := 66) C dX3_appeal_63 (by first | assumption | exact rfl | exact al13 rfl | exact Nat.le_of_ble_eq_true rfl) rfl ?_
        refine g_aload_n (pc' := 67) C dX3_appeal_66 rfl rfl ?_
        refine f_X3_85 (pc' := 70) C dX3_appeal_67 (by first | assumption | exact rfl | exact al13 rfl | exact Nat.le_of_ble_eq_true rfl) rfl ?_
        exact x_iret C hR dX3_appeal_70 (Nat.le_of_ble_eq_true rfl) (Nat.le_of_ble_eq_true rfl) ⟨by simp [cK5, cO5, ff, fsN, upI_at, hn, hcl, c1, c2], by simp [cK5, cO5, ff, fsN, upI_at, hn, hcl, c1, c2], rfl, rfl, by simp [cK5, cO5, ff, fsN, upI_at, hn, hcl, c1, c2], rfl, rfl⟩
      ·
        exact x_thr C hR hT xwS (List.mem_of_getElem? (i := 19) rfl) ⟨⟨Nat.le_of_ble_eq_true rfl, Nat.le_of_ble_eq_true rfl⟩, Nat.le_of_ble_eq_true rfl, Nat.le_of_ble_eq_true rfl⟩ ⟨Nat.le_of_ble_eq_true rfl, Nat.le_of_ble_eq_true rfl⟩ dX3_appeal_35 dX3_appeal_38 dX3_appeal_39 dX3_appeal_41 dX3_appeal_44 ⟨2, List.mem_of_getElem? (i := 1) rfl, by simp [cK5, hn, hcl, c1, c2]⟩
  · have hn : oM x z.1 = true := oM_T hx
    refine k_X3_95 (pc' := 5) C (m_X3_matterAtN X hx) dX3_appeal_2 (by first | assumption | exact rfl | exact al13 rfl | exact Nat.le_of_ble_eq_true rfl) ⟨⟨Nat.le_of_ble_eq_true rfl, Nat.le_of_ble_eq_true rfl⟩, rfl, rfl⟩ (Nat.le_of_ble_eq_true rfl) ⟨Nat.zero_le _, Nat.zero_le _⟩ rfl ?_
    refine g_astore_nN (pc' := 6) C dX3_appeal_5 rfl rfl ?_
    refine g_aload_nN (pc' := 7) C dX3_appeal_6 rfl rfl ?_
    refine g_ifnonnullN (pc' := 10) C dX3_appeal_7 rfl ?_
    exact x_thr C hR hT xwI (List.mem_of_getElem? (i := 17) rfl) ⟨⟨Nat.le_of_ble_eq_true rfl, Nat.le_of_ble_eq_true rfl⟩, Nat.le_of_ble_eq_true rfl, Nat.le_of_ble_eq_true rfl⟩ ⟨Nat.le_of_ble_eq_true rfl, Nat.le_of_ble_eq_true rfl⟩ dX3_appeal_10 dX3_appeal_13 dX3_appeal_14 dX3_appeal_16 dX3_appeal_19 ⟨1, List.mem_of_getElem? (i := 0) rfl, by simp [cK5, hn]⟩
set_option maxRecDepth 20000 in
theorem m_X3_settle {l : Launch} (hfl : l.stackTraces = false) {g : wG} {z : wZ} {I : wI} {P : wP} {O : wO} {x y : Int32} (X : XI z I P) (sz : Nat) : XT l yX3_settle (.code yX3_settle cX3_settle 4 ((some .int))) { frames := 6, cells := 1, slots := 6, locals := 90 } g z sz [.ref (g.2.2 0 0), .int x, .int y] I P O 1 6 (pX (cKs I z.1 x 3) g z (some (.int (I 2 x.toNatClampNeg 7))) (upI I 2 x.toNatClampNeg 5 (if y = 0 then 2 else 0)) (P) O) (xE [(1, tI), (2, tS)] (cKs I z.1 x 3)) := by
  refine XT.of (own := RX3) rfl (by decide +kernel) hfl (Nat.le_of_ble_eq_true rfl) rfl (fun K C hl hg hR hT => ?_)
  subst hl
  subst hg
  refine g_aload_n (pc' := 1) C dX3_settle_0 rfl rfl ?_
  refine g_iload_n (pc' := 2) C dX3_settle_1 rfl rfl ?_
  rcases in_of x z.1 (by have := X.1; have := X.2.1; omega) with ⟨j, hj, hxj⟩ | hx
  · have hn : oM x z.1 = false := oM_F hj hxj (by have := X.1; have := X.2.1; omega)
    have hcl : x.toNatClampNeg = j := by rw [hxj]; exact nI_clamp (by have := X.1; have := X.2.1; omega)
    have hm2 : wAl z 2 j := hj
    refine k_X3_95 (pc' := 5) C (m_X3_matterAtS X hxj hj) dX3_settle_2 (by first | assumption | exact rfl | exact al13 rfl | exact Nat.le_of_ble_eq_true rfl) ⟨⟨Nat.le_of_ble_eq_true rfl, Nat.le_of_ble_eq_true rfl⟩, rfl, rfl⟩ (Nat.le_of_ble_eq_true rfl) ⟨Nat.zero_le _, Nat.zero_le _⟩ rfl ?_
    refine g_astore_n (pc' := 6) C dX3_settle_5 rfl rfl ?_
    refine g_aload_n (pc' := 7) C dX3_settle_6 rfl rfl ?_
    refine g_ifnonnull (tgt := 20) C dX3_settle_7 (by decide) ?_
    refine g_aload_n (pc' := 21) C dX3_settle_20 rfl rfl ?_
    refine f_X3_103 (pc' := 24) C dX3_settle_21 (by first | assumption | exact rfl | exact al13 rfl | exact Nat.le_of_ble_eq_true rfl) rfl ?_
    refine g_iconst (v := 3) (pc' := 25) C dX3_settle_24 (by decide) rfl ?_
    refine g_icmp_eq (tgt := 38) (pc' := 28) C dX3_settle_25 (by decide) rfl (fun c1 => ?_) (fun c1 => ?_)
    ·
      refine g_aload_n (pc' := 39) C dX3_settle_38 rfl rfl ?_
      refine g_iload_n (pc' := 40) C dX3_settle_39 rfl rfl ?_
      refine g_if_eq (tgt := 47) (pc' := 43) C dX3_settle_40 (by decide) rfl (fun c2 => ?_) (fun c2 => ?_)
      ·
        refine g_iconst (v := 2) (pc' := 48) C dX3_settle_47 (by decide) rfl ?_
        refine p_X3_103 (pc' := 51) C dX3_settle_48 (by first | assumption | exact rfl | exact al13 rfl | exact Nat.le_of_ble_eq_true rfl) rfl ?_
        refine g_aload_n (pc' := 52) C dX3_settle_51 rfl rfl ?_
        refine f_X3_116 (pc' := 55) C dX3_settle_52 (by first | assumption | exact rfl | exact al13 rfl | exact Nat.le_of_ble_eq_true rfl) rfl ?_
        exact x_iret C hR dX3_settle_55 (Nat.le_of_ble_eq_true rfl) (Nat.le_of_ble_eq_true rfl) ⟨by simp [cKs, upI_at, hn, hcl, c1, c2], by simp [cKs, upI_at, hn, hcl, c1, c2], rfl, rfl, by simp [cKs, upI_at, hn, hcl, c1, c2], rfl, rfl⟩
      ·
        refine g_iconst (v := 0) (pc' := 44) C dX3_settle_43 (by decide) rfl ?_
        refine g_goto (tgt := 48) C dX3_settle_44 (by decide) ?_
        refine p_X3_103 (pc' := 51) C dX3_settle_48 (by first | assumption | exact rfl | exact al13 rfl | exact Nat.le_of_ble_eq_true rfl) rfl ?_
        refine g_aload_n (pc' := 52) C dX3_settle_51 rfl rfl ?_
        refine f_X3_116 (pc' := 55) C dX3_settle_52 (by first | assumption | exact rfl | exact al13 rfl | exact Nat.le_of_ble_eq_true rfl) rfl ?_
        exact x_iret C hR dX3_settle_55 (Nat.le_of_ble_eq_true rfl) (Nat.le_of_ble_eq_true rfl) ⟨by simp [cKs, upI_at, hn, hcl, c1, c2], by simp [cKs, upI_at, hn, hcl, c1, c2], rfl, rfl, by simp [cKs, upI_at, hn, hcl, c1, c2], rfl, rfl⟩
    ·
      exact x_thr C hR hT xwS (List.mem_of_getElem? (i := 20) rfl) ⟨⟨Nat.le_of_ble_eq_true rfl, Nat.le_of_ble_eq_true rfl⟩, Nat.le_of_ble_eq_true rfl, Nat.le_of_ble_eq_true rfl⟩ ⟨Nat.le_of_ble_eq_true rfl, Nat.le_of_ble_eq_true rfl⟩ dX3_settle_28 dX3_settle_31 dX3_settle_32 dX3_settle_34 dX3_settle_37 ⟨2, List.mem_of_getElem? (i := 1) rfl, by simp [cKs, hn, hcl, c1]⟩
  · have hn : oM x z.1 = true := oM_T hx
    refine k_X3_95 (pc' := 5) C (m_X3_matterAtN X hx) dX3_settle_2 (by first | assumption | exact rfl | exact al13 rfl | exact Nat.le_of_ble_eq_true rfl) ⟨⟨Nat.le_of_ble_eq_true rfl, Nat.le_of_ble_eq_true rfl⟩, rfl, rfl⟩ (Nat.le_of_ble_eq_true rfl) ⟨Nat.zero_le _, Nat.zero_le _⟩ rfl ?_
    refine g_astore_nN (pc' := 6) C dX3_settle_5 rfl rfl ?_
    refine g_aload_nN (pc' := 7) C dX3_settle_6 rfl rfl ?_
    refine g_ifnonnullN (pc' := 10) C dX3_settle_7 rfl ?_
    exact x_thr C hR hT xwI (List.mem_of_getElem? (i := 17) rfl) ⟨⟨Nat.le_of_ble_eq_true rfl, Nat.le_of_ble_eq_true rfl⟩, Nat.le_of_ble_eq_true rfl, Nat.le_of_ble_eq_true rfl⟩ ⟨Nat.le_of_ble_eq_true rfl, Nat.le_of_ble_eq_true rfl⟩ dX3_settle_10 dX3_settle_13 dX3_settle_14 dX3_settle_16 dX3_settle_19 ⟨1, List.mem_of_getElem? (i := 0) rfl, by simp [cKs, hn]⟩
set_option maxRecDepth 20000 in
theorem m_X3_close {l : Launch} (hfl : l.stackTraces = false) {g : wG} {z : wZ} {I : wI} {P : wP} {O : wO} {x : Int32} (X : XI z I P) (sz : Nat) : XT l yX3_close (.code yX3_close cX3_close 3 ((some .int))) { frames := 6, cells := 1, slots := 6, locals := 90 } g z sz [.ref (g.2.2 0 0), .int x] I P O 1 6 (pX (cKs I z.1 x 2) g z (some (.int (I 2 x.toNatClampNeg 6))) (upI I 2 x.toNatClampNeg 5 4) (P) O) (xE [(1, tI), (2, tS)] (cKs I z.1 x 2)) := by
  refine XT.of (own := RX3) rfl (by decide +kernel) hfl (Nat.le_of_ble_eq_true rfl) rfl (fun K C hl hg hR hT => ?_)
  subst hl
  subst hg
  refine g_aload_n (pc' := 1) C dX3_close_0 rfl rfl ?_
  refine g_iload_n (pc' := 2) C dX3_close_1 rfl rfl ?_
  rcases in_of x z.1 (by have := X.1; have := X.2.1; omega) with ⟨j, hj, hxj⟩ | hx
  · have hn : oM x z.1 = false := oM_F hj hxj (by have := X.1; have := X.2.1; omega)
    have hcl : x.toNatClampNeg = j := by rw [hxj]; exact nI_clamp (by have := X.1; have := X.2.1; omega)
    have hm2 : wAl z 2 j := hj
    refine k_X3_95 (pc' := 5) C (m_X3_matterAtS X hxj hj) dX3_close_2 (by first | assumption | exact rfl | exact al13 rfl | exact Nat.le_of_ble_eq_true rfl) ⟨⟨Nat.le_of_ble_eq_true rfl, Nat.le_of_ble_eq_true rfl⟩, rfl, rfl⟩ (Nat.le_of_ble_eq_true rfl) ⟨Nat.zero_le _, Nat.zero_le _⟩ rfl ?_
    refine g_astore_n (pc' := 6) C dX3_close_5 rfl rfl ?_
    refine g_aload_n (pc' := 7) C dX3_close_6 rfl rfl ?_
    refine g_ifnonnull (tgt := 20) C dX3_close_7 (by decide) ?_
    refine g_aload_n (pc' := 21) C dX3_close_20 rfl rfl ?_
    refine f_X3_103 (pc' := 24) C dX3_close_21 (by first | assumption | exact rfl | exact al13 rfl | exact Nat.le_of_ble_eq_true rfl) rfl ?_
    refine g_iconst (v := 2) (pc' := 25) C dX3_close_24 (by decide) rfl ?_
    refine g_icmp_eq (tgt := 38) (pc' := 28) C dX3_close_25 (by decide) rfl (fun c1 => ?_) (fun c1 => ?_)
    ·
      refine g_aload_n (pc' := 39) C dX3_close_38 rfl rfl ?_
      refine g_iconst (v := 4) (pc' := 40) C dX3_close_39 (by decide) rfl ?_
      refine p_X3_103 (pc' := 43) C dX3_close_40 (by first | assumption | exact rfl | exact al13 rfl | exact Nat.le_of_ble_eq_true rfl) rfl ?_
      refine g_aload_n (pc' := 44) C dX3_close_43 rfl rfl ?_
      refine f_X3_85 (pc' := 47) C dX3_close_44 (by first | assumption | exact rfl | exact al13 rfl | exact Nat.le_of_ble_eq_true rfl) rfl ?_
      exact x_iret C hR dX3_close_47 (Nat.le_of_ble_eq_true rfl) (Nat.le_of_ble_eq_true rfl) ⟨by simp [cKs, upI_at, hn, hcl, c1], by simp [cKs, upI_at, hn, hcl, c1], rfl, rfl, by simp [cKs, upI_at, hn, hcl, c1], rfl, rfl⟩
    ·
      exact x_thr C hR hT xwS (List.mem_of_getElem? (i := 21) rfl) ⟨⟨Nat.le_of_ble_eq_true rfl, Nat.le_of_ble_eq_true rfl⟩, Nat.le_of_ble_eq_true rfl, Nat.le_of_ble_eq_true rfl⟩ ⟨Nat.le_of_ble_eq_true rfl, Nat.le_of_ble_eq_true rfl⟩ dX3_close_28 dX3_close_31 dX3_close_32 dX3_close_34 dX3_close_37 ⟨2, List.mem_of_getElem? (i := 1) rfl, by simp [cKs, hn, hcl, c1]⟩
  · have hn : oM x z.1 = true := oM_T hx
    refine k_X3_95 (pc' := 5) C (m_X3_matterAtN X hx) dX3_close_2 (by first | assumption | exact rfl | exact al13 rfl | exact Nat.le_of_ble_eq_true rfl) ⟨⟨Nat.le_of_ble_eq_true rfl, Nat.le_of_ble_eq_true rfl⟩, rfl, rfl⟩ (Nat.le_of_ble_eq_true rfl) ⟨Nat.zero_le _, Nat.zero_le _⟩ rfl ?_
    refine g_astore_nN (pc' := 6) C dX3_close_5 rfl rfl ?_
    refine g_aload_nN (pc' := 7) C dX3_close_6 rfl rfl ?_
    refine g_ifnonnullN (pc' := 10) C dX3_close_7 rfl ?_
    exact x_thr C hR hT xwI (List.mem_of_getElem? (i := 17) rfl) ⟨⟨Nat.le_of_ble_eq_true rfl, Nat.le_of_ble_eq_true rfl⟩, Nat.le_of_ble_eq_true rfl, Nat.le_of_ble_eq_true rfl⟩ ⟨Nat.le_of_ble_eq_true rfl, Nat.le_of_ble_eq_true rfl⟩ dX3_close_10 dX3_close_13 dX3_close_14 dX3_close_16 dX3_close_19 ⟨1, List.mem_of_getElem? (i := 0) rfl, by simp [cKs, hn]⟩
set_option maxRecDepth 20000 in
theorem m_X3_move {l : Launch} (hfl : l.stackTraces = false) {g : wG} {z : wZ} {I : wI} {P : wP} {O : wO} {x r w a : Int32} (X : XI z I P) (sz : Nat) : XT l yX3_move (.code yX3_move cX3_move 6 ((some .int))) { frames := 6, cells := 1, slots := 6, locals := 96 } g z sz [.ref (g.2.2 0 0), .int x, .int r, .int w, .int a] I P O 1 6 (pX (cK9 I P z.2 x r w a) g z (some (.int ((cO9 I P x r w a).1 2 (mx (cO9 I P x r w a).2 x.toNatClampNeg) 6))) ((cO9 I P x r w a).1) ((cO9 I P x r w a).2) O) (xE [(1, tI), (2, tA), (3, tS)] (cK9 I P z.2 x r w a)) := by
  refine XT.of (own := RX3) rfl (by decide +kernel) hfl (Nat.le_of_ble_eq_true rfl) rfl (fun K C hl hg hR hT => ?_)
  subst hl
  subst hg
  refine g_aload_n (pc' := 1) C dX3_move_0 rfl rfl ?_
  refine g_iload_n (pc' := 2) C dX3_move_1 rfl rfl ?_
  rcases in_of x z.2 (by have := X.1; have := X.2.1; omega) with ⟨j, hj, hxj⟩ | hx
  · have hn : oM x z.2 = false := oM_F hj hxj (by have := X.1; have := X.2.1; omega)
    have hcl : x.toNatClampNeg = j := by rw [hxj]; exact nI_clamp (by have := X.1; have := X.2.1; omega)
    have hh : wAl z 3 j := hj
    have hmx2 := X.hm2 hh
    refine k_X3_149 (pc' := 5) C (m_X3_hearingAtS X hxj hj) dX3_move_2 (by first | assumption | exact rfl | exact al13 rfl | exact Nat.le_of_ble_eq_true rfl) ⟨⟨Nat.le_of_ble_eq_true rfl, Nat.le_of_ble_eq_true rfl⟩, rfl, rfl⟩ (Nat.le_of_ble_eq_true rfl) ⟨Nat.zero_le _, Nat.zero_le _⟩ rfl ?_
    refine g_astore (pc' := 7) C dX3_move_5 rfl rfl ?_
    refine g_aload (pc' := 9) C dX3_move_7 rfl rfl ?_
    refine g_ifnull (pc' := 12) C dX3_move_9 rfl ?_
    refine g_iload_n (pc' := 13) C dX3_move_12 rfl rfl ?_
    refine g_iconst (v := 4) (pc' := 14) C dX3_move_13 (by decide) rfl ?_
    refine k_X3_66 (pc' := 17) C (m_X3_isIn) dX3_move_14 ⟨⟨Nat.le_of_ble_eq_true rfl, Nat.le_of_ble_eq_true rfl⟩, rfl, rfl⟩ (Nat.le_of_ble_eq_true rfl) ⟨Nat.zero_le _, Nat.zero_le _⟩ rfl ?_
    refine g_if_eq (tgt := 28) (pc' := 20) C dX3_move_17 (by decide) rfl (fun c1 => ?_) (fun c1 => ?_)
    ·
      have c1 := b2_0.mp c1
      exact x_thr C hR hT xwI (List.mem_of_getElem? (i := 12) rfl) ⟨⟨Nat.le_of_ble_eq_true rfl, Nat.le_of_ble_eq_true rfl⟩, Nat.le_of_ble_eq_true rfl, Nat.le_of_ble_eq_true rfl⟩ ⟨Nat.le_of_ble_eq_true rfl, Nat.le_of_ble_eq_true rfl⟩ dX3_move_28 dX3_move_31 dX3_move_32 dX3_move_34 dX3_move_37 ⟨1, List.mem_of_getElem? (i := 0) rfl, by simp [cK9, tbg, inN, hn, hcl, c1]⟩
    ·
      have c1 := b2_1.mp c1
      refine g_iload_n (pc' := 21) C dX3_move_20 rfl rfl ?_
      refine g_iconst (v := 4) (pc' := 22) C dX3_move_21 (by decide) rfl ?_
      refine k_X3_70 (pc' := 25) C (m_X3_isInOrNone) dX3_move_22 ⟨⟨Nat.le_of_ble_eq_true rfl, Nat.le_of_ble_eq_true rfl⟩, rfl, rfl⟩ (Nat.le_of_ble_eq_true rfl) ⟨Nat.zero_le _, Nat.zero_le _⟩ rfl ?_
      refine g_if_ne (tgt := 38) (pc' := 28) C dX3_move_25 (by decide) rfl (fun c2 => ?_) (fun c2 => ?_)
      ·
        have c2 := b2_1.mp c2
        refine g_iload (pc' := 40) C dX3_move_38 rfl rfl ?_
        refine g_aload_n (pc' := 41) C dX3_move_40 rfl rfl ?_
        refine f_X3_38 (pc' := 44) C dX3_move_41 (by first | assumption | exact rfl | exact al13 rfl | exact Nat.le_of_ble_eq_true rfl) rfl ?_
        refine g_icmp_le (tgt := 55) (pc' := 47) C dX3_move_44 (by decide) rfl (fun c3 => ?_) (fun c3 => ?_)
        ·
          exact x_thr C hR hT xwA (List.mem_of_getElem? (i := 13) rfl) ⟨⟨Nat.le_of_ble_eq_true rfl, Nat.le_of_ble_eq_true rfl⟩, Nat.le_of_ble_eq_true rfl, Nat.le_of_ble_eq_true rfl⟩ ⟨Nat.le_of_ble_eq_true rfl, Nat.le_of_ble_eq_true rfl⟩ dX3_move_55 dX3_move_58 dX3_move_59 dX3_move_61 dX3_move_64 ⟨2, List.mem_of_getElem? (i := 1) rfl, by simp [cK9, tbg, inN, hn, hcl, c1, c2, c3]⟩
        ·
          refine g_iload (pc' := 49) C dX3_move_47 rfl rfl ?_
          refine g_sipush (v := 999) (pc' := 52) C dX3_move_49 (by decide) rfl ?_
          refine g_icmp_le (tgt := 65) (pc' := 55) C dX3_move_52 (by decide) rfl (fun c4 => ?_) (fun c4 => ?_)
          ·
            refine g_aload_n (pc' := 66) C dX3_move_65 rfl rfl ?_
            refine g_aload (pc' := 68) C dX3_move_66 rfl rfl ?_
            refine k_X3_157 (pc' := 71) C (m_X3_isToBegin hh) dX3_move_68 (by first | assumption | exact rfl | exact al13 rfl | exact Nat.le_of_ble_eq_true rfl) ⟨⟨Nat.le_of_ble_eq_true rfl, Nat.le_of_ble_eq_true rfl⟩, rfl, rfl⟩ (Nat.le_of_ble_eq_true rfl) ⟨Nat.zero_le _, Nat.zero_le _⟩ rfl ?_
            refine g_if_eq (tgt := 87) (pc' := 74) C dX3_move_71 (by decide) rfl (fun c5 => ?_) (fun c5 => ?_)
            ·
              have c5 := b2_0.mp c5
              exact x_thr C hR hT xwS (List.mem_of_getElem? (i := 14) rfl) ⟨⟨Nat.le_of_ble_eq_true rfl, Nat.le_of_ble_eq_true rfl⟩, Nat.le_of_ble_eq_true rfl, Nat.le_of_ble_eq_true rfl⟩ ⟨Nat.le_of_ble_eq_true rfl, Nat.le_of_ble_eq_true rfl⟩ dX3_move_87 dX3_move_90 dX3_move_91 dX3_move_93 dX3_move_96 ⟨3, List.mem_of_getElem? (i := 2) rfl, by simp [cK9, tbg, inN, hn, hcl, c1, c2, c3, c4, c5]⟩
            ·
              have c5 := b2_1.mp c5
              refine g_aload_n (pc' := 75) C dX3_move_74 rfl rfl ?_
              refine g_aload (pc' := 77) C dX3_move_75 rfl rfl ?_
              refine f_X3_161 (pc' := 80) C (X.hm hh) dX3_move_77 (by first | assumption | exact rfl | exact al13 rfl | exact Nat.le_of_ble_eq_true rfl) rfl ?_
              refine g_iload_n (pc' := 81) C dX3_move_80 rfl rfl ?_
              refine k_X3_129 (pc' := 84) C (m_X3_isAsNeeded X hmx2) dX3_move_81 (by first | assumption | exact rfl | exact al13 rfl | exact Nat.le_of_ble_eq_true rfl) ⟨⟨Nat.le_of_ble_eq_true rfl, Nat.le_of_ble_eq_true rfl⟩, rfl, rfl⟩ (Nat.le_of_ble_eq_true rfl) ⟨Nat.zero_le _, Nat.zero_le _⟩ rfl ?_
              refine g_if_ne (tgt := 97) (pc' := 87) C dX3_move_84 (by decide) rfl (fun c6 => ?_) (fun c6 => ?_)
              ·
                have c6 := b2_1.mp c6
                refine g_aload_n (pc' := 98) C dX3_move_97 rfl rfl ?_
                refine g_aload (pc' := 100) C dX3_move_98 rfl rfl ?_
                refine g_aload (pc' := 102) C dX3_move_100 rfl rfl ?_
                refine f_X3_161 (pc' := 105) C (X.hm hh) dX3_move_102 (by first | assumption | exact rfl | exact al13 rfl | exact Nat.le_of_ble_eq_true rfl) rfl ?_
                refine g_iload_n (pc' := 106) C dX3_move_105 rfl rfl ?_
                refine g_iload_n (pc' := 107) C dX3_move_106 rfl rfl ?_
                refine g_iload (pc' := 109) C dX3_move_107 rfl rfl ?_
                refine g_aload (pc' := 111) C dX3_move_109 rfl rfl ?_
                refine f_X3_167 (pc' := 114) C dX3_move_111 (by first | assumption | exact rfl | exact al13 rfl | exact Nat.le_of_ble_eq_true rfl) rfl ?_
                refine k_X3_135 (pc' := 117) C (m_X3_clashReasonR X hmx2 hh) dX3_move_114 (by first | assumption | exact rfl | exact al13 rfl | exact Nat.le_of_ble_eq_true rfl) ⟨⟨Nat.le_of_ble_eq_true rfl, Nat.le_of_ble_eq_true rfl⟩, rfl, rfl⟩ (Nat.le_of_ble_eq_true rfl) ⟨Nat.zero_le _, Nat.zero_le _⟩ rfl ?_
                refine g_if_eq (tgt := 130) (pc' := 120) C dX3_move_117 (by decide) rfl (fun c7 => ?_) (fun c7 => ?_)
                ·
                  refine g_aload_n (pc' := 131) C dX3_move_130 rfl rfl ?_
                  refine g_aload (pc' := 133) C dX3_move_131 rfl rfl ?_
                  refine k_X3_170 (pc' := 136) C (m_X3_leave X hh) dX3_move_133 (by first | assumption | exact rfl | exact al13 rfl | exact Nat.le_of_ble_eq_true rfl) ⟨⟨Nat.le_of_ble_eq_true rfl, Nat.le_of_ble_eq_true rfl⟩, rfl, rfl⟩ (Nat.le_of_ble_eq_true rfl) ⟨Nat.zero_le _, Nat.zero_le _⟩ rfl ?_
                  have X1 := X.lvR hh
                  refine g_aload_n (pc' := 137) C dX3_move_136 rfl rfl ?_
                  refine g_aload (pc' := 139) C dX3_move_137 rfl rfl ?_
                  refine g_iload_n (pc' := 140) C dX3_move_139 rfl rfl ?_
                  refine g_iload_n (pc' := 141) C dX3_move_140 rfl rfl ?_
                  refine g_iload (pc' := 143) C dX3_move_141 rfl rfl ?_
                  rcases in_of w 4 (by decide) with ⟨i, hi4, hwi⟩ | hw
                  · have hnw : ¬ (w < 0 ∨ 4 ≤ w) := by rw [hwi]; exact fun e => e.elim (nI_pos (by omega)) (nI_ge (a := i) (b := 4) hi4 (by decide))
                    have hcw : w.toNatClampNeg = i := by rw [hwi]; exact nI_clamp (by omega)
                    have hi : wAl z 1 i := hi4
                    have X2 : XI z (putS (lvR I P j).1 (lvR I P j).2 j i r w a).1 (putS (lvR I P j).1 (lvR I P j).2 j i r w a).2 := XI.putS X1
                    have hmx3 := X2.hm2 hh
                    refine k_X3_144 (pc' := 146) C (m_X3_putS X1 hh hwi hi) dX3_move_143 (by first | assumption | exact rfl | exact al13 rfl | exact Nat.le_of_ble_eq_true rfl) ⟨⟨Nat.le_of_ble_eq_true rfl, Nat.le_of_ble_eq_true rfl⟩, rfl, rfl⟩ (Nat.le_of_ble_eq_true rfl) ⟨Nat.zero_le _, Nat.zero_le _⟩ rfl ?_
                    refine g_aload (pc' := 148) C dX3_move_146 rfl rfl ?_
                    refine f_X3_161 (pc' := 151) C (X2.hm hh) dX3_move_148 (by first | assumption | exact rfl | exact al13 rfl | exact Nat.le_of_ble_eq_true rfl) rfl ?_
                    refine f_X3_85 (pc' := 154) C dX3_move_151 (by first | assumption | exact rfl | exact al13 rfl | exact Nat.le_of_ble_eq_true rfl) rfl ?_
                    exact x_iret C hR dX3_move_154 (Nat.le_of_ble_eq_true rfl) (Nat.le_of_ble_eq_true rfl) ⟨by simp [cK9, cO9, putC, tbg, inN, hn, hcl, c1, c2, c3, c4, c5, c6, c7, hnw, hcw], by simp [cK9, cO9, putC, tbg, inN, hn, hcl, c1, c2, c3, c4, c5, c6, c7, hnw, hcw], rfl, rfl, by simp [cK9, cO9, putC, tbg, inN, hn, hcl, c1, c2, c3, c4, c5, c6, c7, hnw, hcw], by simp [cK9, cO9, putC, tbg, inN, hn, hcl, c1, c2, c3, c4, c5, c6, c7, hnw, hcw], rfl⟩
                  · have hnw : w < 0 ∨ 4 ≤ w := hw
                    have X2 : XI z (putN (lvR I P j).1 (lvR I P j).2 j r w a) (lvR I P j).2 := XI.putN X1
                    have hmx3 := X2.hm2 hh
                    refine k_X3_144 (pc' := 146) C (m_X3_putN X1 hh hnw) dX3_move_143 (by first | assumption | exact rfl | exact al13 rfl | exact Nat.le_of_ble_eq_true rfl) ⟨⟨Nat.le_of_ble_eq_true rfl, Nat.le_of_ble_eq_true rfl⟩, rfl, rfl⟩ (Nat.le_of_ble_eq_true rfl) ⟨Nat.zero_le _, Nat.zero_le _⟩ rfl ?_
                    refine g_aload (pc' := 148) C dX3_move_146 rfl rfl ?_
                    refine f_X3_161 (pc' := 151) C (X2.hm hh) dX3_move_148 (by first | assumption | exact rfl | exact al13 rfl | exact Nat.le_of_ble_eq_true rfl) rfl ?_
                    refine f_X3_85 (pc' := 154) C dX3_move_151 (by first | assumption | exact rfl | exact al13 rfl | exact Nat.le_of_ble_eq_true rfl) rfl ?_
                    exact x_iret C hR dX3_move_154 (Nat.le_of_ble_eq_true rfl) (Nat.le_of_ble_eq_true rfl) ⟨by simp [cK9, cO9, putC, tbg, inN, hn, hcl, c1, c2, c3, c4, c5, c6, c7, hnw], by simp [cK9, cO9, putC, tbg, inN, hn, hcl, c1, c2, c3, c4, c5, c6, c7, hnw], rfl, rfl, by simp [cK9, cO9, putC, tbg, inN, hn, hcl, c1, c2, c3, c4, c5, c6, c7, hnw], by simp [cK9, cO9, putC, tbg, inN, hn, hcl, c1, c2, c3, c4, c5, c6, c7, hnw], rfl⟩
                ·
                  exact x_thr C hR hT xwS (List.mem_of_getElem? (i := 11) rfl) ⟨⟨Nat.le_of_ble_eq_true rfl, Nat.le_of_ble_eq_true rfl⟩, Nat.le_of_ble_eq_true rfl, Nat.le_of_ble_eq_true rfl⟩ ⟨Nat.le_of_ble_eq_true rfl, Nat.le_of_ble_eq_true rfl⟩ dX3_move_120 dX3_move_123 dX3_move_124 dX3_move_126 dX3_move_129 ⟨3, List.mem_of_getElem? (i := 2) rfl, by simp [cK9, tbg, inN, hn, hcl, c1, c2, c3, c4, c5, c6, c7]⟩
              ·
                have c6 := b2_0.mp c6
                exact x_thr C hR hT xwS (List.mem_of_getElem? (i := 14) rfl) ⟨⟨Nat.le_of_ble_eq_true rfl, Nat.le_of_ble_eq_true rfl⟩, Nat.le_of_ble_eq_true rfl, Nat.le_of_ble_eq_true rfl⟩ ⟨Nat.le_of_ble_eq_true rfl, Nat.le_of_ble_eq_true rfl⟩ dX3_move_87 dX3_move_90 dX3_move_91 dX3_move_93 dX3_move_96 ⟨3, List.mem_of_getElem? (i := 2) rfl, by simp [cK9, tbg, inN, hn, hcl, c1, c2, c3, c4, c5, c6]⟩
          ·
            exact x_thr C hR hT xwA (List.mem_of_getElem? (i := 13) rfl) ⟨⟨Nat.le_of_ble_eq_true rfl, Nat.le_of_ble_eq_true rfl⟩, Nat.le_of_ble_eq_true rfl, Nat.le_of_ble_eq_true rfl⟩ ⟨Nat.le_of_ble_eq_true rfl, Nat.le_of_ble_eq_true rfl⟩ dX3_move_55 dX3_move_58 dX3_move_59 dX3_move_61 dX3_move_64 ⟨2, List.mem_of_getElem? (i := 1) rfl, by simp [cK9, tbg, inN, hn, hcl, c1, c2, c3, c4]⟩
      ·
        have c2 := b2_0.mp c2
        exact x_thr C hR hT xwI (List.mem_of_getElem? (i := 12) rfl) ⟨⟨Nat.le_of_ble_eq_true rfl, Nat.le_of_ble_eq_true rfl⟩, Nat.le_of_ble_eq_true rfl, Nat.le_of_ble_eq_true rfl⟩ ⟨Nat.le_of_ble_eq_true rfl, Nat.le_of_ble_eq_true rfl⟩ dX3_move_28 dX3_move_31 dX3_move_32 dX3_move_34 dX3_move_37 ⟨1, List.mem_of_getElem? (i := 0) rfl, by simp [cK9, tbg, inN, hn, hcl, c1, c2]⟩
  · have hn : oM x z.2 = true := oM_T hx
    refine k_X3_149 (pc' := 5) C (m_X3_hearingAtN X hx) dX3_move_2 (by first | assumption | exact rfl | exact al13 rfl | exact Nat.le_of_ble_eq_true rfl) ⟨⟨Nat.le_of_ble_eq_true rfl, Nat.le_of_ble_eq_true rfl⟩, rfl, rfl⟩ (Nat.le_of_ble_eq_true rfl) ⟨Nat.zero_le _, Nat.zero_le _⟩ rfl ?_
    refine g_astoreN (pc' := 7) C dX3_move_5 rfl rfl ?_
    refine g_aloadN (pc' := 9) C dX3_move_7 rfl rfl ?_
    refine g_ifnullN (tgt := 28) C dX3_move_9 (by decide) ?_
    exact x_thr C hR hT xwI (List.mem_of_getElem? (i := 12) rfl) ⟨⟨Nat.le_of_ble_eq_true rfl, Nat.le_of_ble_eq_true rfl⟩, Nat.le_of_ble_eq_true rfl, Nat.le_of_ble_eq_true rfl⟩ ⟨Nat.le_of_ble_eq_true rfl, Nat.le_of_ble_eq_true rfl⟩ dX3_move_28 dX3_move_31 dX3_move_32 dX3_move_34 dX3_move_37 ⟨1, List.mem_of_getElem? (i := 0) rfl, by simp [cK9, tbg, inN, hn]⟩
set_option maxRecDepth 20000 in
theorem m_X3_drop {l : Launch} (hfl : l.stackTraces = false) {g : wG} {z : wZ} {I : wI} {P : wP} {O : wO} {x : Int32} (X : XI z I P) (sz : Nat) : XT l yX3_drop (.code yX3_drop cX3_drop 3 ((some .int))) { frames := 6, cells := 1, slots := 6, locals := 90 } g z sz [.ref (g.2.2 0 0), .int x] I P O 1 6 (pX (cK10 I z.2 x) g z (some (.int ((cO10 I P x).1 2 (mx (cO10 I P x).2 x.toNatClampNeg) 6))) ((cO10 I P x).1) ((cO10 I P x).2) O) (xE [(1, tI), (2, tS)] (cK10 I z.2 x)) := by
  refine XT.of (own := RX3) rfl (by decide +kernel) hfl (Nat.le_of_ble_eq_true rfl) rfl (fun K C hl hg hR hT => ?_)
  subst hl
  subst hg
  refine g_aload_n (pc' := 1) C dX3_drop_0 rfl rfl ?_
  refine g_iload_n (pc' := 2) C dX3_drop_1 rfl rfl ?_
  rcases in_of x z.2 (by have := X.1; have := X.2.1; omega) with ⟨j, hj, hxj⟩ | hx
  · have hn : oM x z.2 = false := oM_F hj hxj (by have := X.1; have := X.2.1; omega)
    have hcl : x.toNatClampNeg = j := by rw [hxj]; exact nI_clamp (by have := X.1; have := X.2.1; omega)
    have hh : wAl z 3 j := hj
    have hmx2 := X.hm2 hh
    refine k_X3_149 (pc' := 5) C (m_X3_hearingAtS X hxj hj) dX3_drop_2 (by first | assumption | exact rfl | exact al13 rfl | exact Nat.le_of_ble_eq_true rfl) ⟨⟨Nat.le_of_ble_eq_true rfl, Nat.le_of_ble_eq_true rfl⟩, rfl, rfl⟩ (Nat.le_of_ble_eq_true rfl) ⟨Nat.zero_le _, Nat.zero_le _⟩ rfl ?_
    refine g_astore_n (pc' := 6) C dX3_drop_5 rfl rfl ?_
    refine g_aload_n (pc' := 7) C dX3_drop_6 rfl rfl ?_
    refine g_ifnonnull (tgt := 20) C dX3_drop_7 (by decide) ?_
    refine g_aload_n (pc' := 21) C dX3_drop_20 rfl rfl ?_
    refine g_aload_n (pc' := 22) C dX3_drop_21 rfl rfl ?_
    refine k_X3_157 (pc' := 25) C (m_X3_isToBegin hh) dX3_drop_22 (by first | assumption | exact rfl | exact al13 rfl | exact Nat.le_of_ble_eq_true rfl) ⟨⟨Nat.le_of_ble_eq_true rfl, Nat.le_of_ble_eq_true rfl⟩, rfl, rfl⟩ (Nat.le_of_ble_eq_true rfl) ⟨Nat.zero_le _, Nat.zero_le _⟩ rfl ?_
    refine g_if_ne (tgt := 38) (pc' := 28) C dX3_drop_25 (by decide) rfl (fun c1 => ?_) (fun c1 => ?_)
    ·
      have c1 := b2_1.mp c1
      refine g_aload_n (pc' := 39) C dX3_drop_38 rfl rfl ?_
      refine g_aload_n (pc' := 40) C dX3_drop_39 rfl rfl ?_
      refine k_X3_170 (pc' := 43) C (m_X3_leave X hh) dX3_drop_40 (by first | assumption | exact rfl | exact al13 rfl | exact Nat.le_of_ble_eq_true rfl) ⟨⟨Nat.le_of_ble_eq_true rfl, Nat.le_of_ble_eq_true rfl⟩, rfl, rfl⟩ (Nat.le_of_ble_eq_true rfl) ⟨Nat.zero_le _, Nat.zero_le _⟩ rfl ?_
      have X1 := X.lvR hh
      have hmx3 := X1.hm2 hh
      refine g_aload_n (pc' := 44) C dX3_drop_43 rfl rfl ?_
      refine g_iconst (v := 3) (pc' := 45) C dX3_drop_44 (by decide) rfl ?_
      refine p_X3_178 (pc' := 48) C dX3_drop_45 (by first | assumption | exact rfl | exact al13 rfl | exact Nat.le_of_ble_eq_true rfl) rfl ?_
      refine g_aload_n (pc' := 49) C dX3_drop_48 rfl rfl ?_
      refine f_X3_161 (pc' := 52) C (X1.hm hh) dX3_drop_49 (by first | assumption | exact rfl | exact al13 rfl | exact Nat.le_of_ble_eq_true rfl) rfl ?_
      refine f_X3_85 (pc' := 55) C dX3_drop_52 (by first | assumption | exact rfl | exact al13 rfl | exact Nat.le_of_ble_eq_true rfl) rfl ?_
      exact x_iret C hR dX3_drop_55 (Nat.le_of_ble_eq_true rfl) (Nat.le_of_ble_eq_true rfl) ⟨by simp [cK10, cO10, tbg, inN, hn, hcl, c1], by simp [cK10, cO10, tbg, inN, hn, hcl, c1], rfl, rfl, by simp [cK10, cO10, tbg, inN, hn, hcl, c1], by simp [cK10, cO10, tbg, inN, hn, hcl, c1], rfl⟩
    ·
      have c1 := b2_0.mp c1
      exact x_thr C hR hT xwS (List.mem_of_getElem? (i := 16) rfl) ⟨⟨Nat.le_of_ble_eq_true rfl, Nat.le_of_ble_eq_true rfl⟩, Nat.le_of_ble_eq_true rfl, Nat.le_of_ble_eq_true rfl⟩ ⟨Nat.le_of_ble_eq_true rfl, Nat.le_of_ble_eq_true rfl⟩ dX3_drop_28 dX3_drop_31 dX3_drop_32 dX3_drop_34 dX3_drop_37 ⟨2, List.mem_of_getElem? (i := 1) rfl, by simp [cK10, tbg, hn, hcl, c1]⟩
  · have hn : oM x z.2 = true := oM_T hx
    refine k_X3_149 (pc' := 5) C (m_X3_hearingAtN X hx) dX3_drop_2 (by first | assumption | exact rfl | exact al13 rfl | exact Nat.le_of_ble_eq_true rfl) ⟨⟨Nat.le_of_ble_eq_true rfl, Nat.le_of_ble_eq_true rfl⟩, rfl, rfl⟩ (Nat.le_of_ble_eq_true rfl) ⟨Nat.zero_le _, Nat.zero_le _⟩ rfl ?_
    refine g_astore_nN (pc' := 6) C dX3_drop_5 rfl rfl ?_
    refine g_aload_nN (pc' := 7) C dX3_drop_6 rfl rfl ?_
    refine g_ifnonnullN (pc' := 10) C dX3_drop_7 rfl ?_
    exact x_thr C hR hT xwI (List.mem_of_getElem? (i := 15) rfl) ⟨⟨Nat.le_of_ble_eq_true rfl, Nat.le_of_ble_eq_true rfl⟩, Nat.le_of_ble_eq_true rfl, Nat.le_of_ble_eq_true rfl⟩ ⟨Nat.le_of_ble_eq_true rfl, Nat.le_of_ble_eq_true rfl⟩ dX3_drop_10 dX3_drop_13 dX3_drop_14 dX3_drop_16 dX3_drop_19 ⟨1, List.mem_of_getElem? (i := 0) rfl, by simp [cK10, tbg, hn]⟩
set_option maxRecDepth 20000 in
theorem m_X3_notice {l : Launch} (hfl : l.stackTraces = false) {g : wG} {z : wZ} {I : wI} {P : wP} {O : wO} {x y : Int32} (X : XI z I P) (sz : Nat) : XT l yX3_notice (.code yX3_notice cX3_notice 5 ((some .boolean))) { frames := 6, cells := 1, slots := 6, locals := 90 } g z sz [.ref (g.2.2 0 0), .int x, .int y] I P O 1 6 (pX (cK11 I P z.2 x y) g z (some (.int (cO11 I P x y).2)) ((cO11 I P x y).1) (P) O) (xE [(1, tI), (2, tA), (3, tS)] (cK11 I P z.2 x y)) := by
  refine XT.of (own := RX3) rfl (by decide +kernel) hfl (Nat.le_of_ble_eq_true rfl) rfl (fun K C hl hg hR hT => ?_)
  subst hl
  subst hg
  refine g_aload_n (pc' := 1) C dX3_notice_0 rfl rfl ?_
  refine g_iload_n (pc' := 2) C dX3_notice_1 rfl rfl ?_
  rcases in_of x z.2 (by have := X.1; have := X.2.1; omega) with ⟨j, hj, hxj⟩ | hx
  · have hn : oM x z.2 = false := oM_F hj hxj (by have := X.1; have := X.2.1; omega)
    have hcl : x.toNatClampNeg = j := by rw [hxj]; exact nI_clamp (by have := X.1; have := X.2.1; omega)
    have hh : wAl z 3 j := hj
    have hmx2 := X.hm2 hh
    refine k_X3_149 (pc' := 5) C (m_X3_hearingAtS X hxj hj) dX3_notice_2 (by first | assumption | exact rfl | exact al13 rfl | exact Nat.le_of_ble_eq_true rfl) ⟨⟨Nat.le_of_ble_eq_true rfl, Nat.le_of_ble_eq_true rfl⟩, rfl, rfl⟩ (Nat.le_of_ble_eq_true rfl) ⟨Nat.zero_le _, Nat.zero_le _⟩ rfl ?_
    refine g_astore_n (pc' := 6) C dX3_notice_5 rfl rfl ?_
    refine g_aload_n (pc' := 7) C dX3_notice_6 rfl rfl ?_
    refine g_ifnull (pc' := 10) C dX3_notice_7 rfl ?_
    refine g_iload_n (pc' := 11) C dX3_notice_10 rfl rfl ?_
    refine g_bipush (v := 6) (pc' := 13) C dX3_notice_11 (by decide) rfl ?_
    refine k_X3_66 (pc' := 16) C (m_X3_isIn) dX3_notice_13 ⟨⟨Nat.le_of_ble_eq_true rfl, Nat.le_of_ble_eq_true rfl⟩, rfl, rfl⟩ (Nat.le_of_ble_eq_true rfl) ⟨Nat.zero_le _, Nat.zero_le _⟩ rfl ?_
    refine g_if_ne (tgt := 29) (pc' := 19) C dX3_notice_16 (by decide) rfl (fun c1 => ?_) (fun c1 => ?_)
    ·
      have c1 := b2_1.mp c1
      refine g_aload_n (pc' := 30) C dX3_notice_29 rfl rfl ?_
      refine f_X3_161 (pc' := 33) C (X.hm hh) dX3_notice_30 (by first | assumption | exact rfl | exact al13 rfl | exact Nat.le_of_ble_eq_true rfl) rfl ?_
      refine g_iload_n (pc' := 34) C dX3_notice_33 rfl rfl ?_
      refine k_X3_181 (pc' := 37) C (m_X2_isOf hmx2) dX3_notice_34 (by first | assumption | exact rfl | exact al13 rfl | exact Nat.le_of_ble_eq_true rfl) ⟨⟨Nat.le_of_ble_eq_true rfl, Nat.le_of_ble_eq_true rfl⟩, rfl, rfl⟩ (Nat.le_of_ble_eq_true rfl) ⟨Nat.zero_le _, Nat.zero_le _⟩ rfl ?_
      refine g_if_ne (tgt := 50) (pc' := 40) C dX3_notice_37 (by decide) rfl (fun c2 => ?_) (fun c2 => ?_)
      ·
        have c2 := b2_1.mp c2
        refine g_aload_n (pc' := 51) C dX3_notice_50 rfl rfl ?_
        refine f_X3_178 (pc' := 54) C dX3_notice_51 (by first | assumption | exact rfl | exact al13 rfl | exact Nat.le_of_ble_eq_true rfl) rfl ?_
        refine g_if_eq (tgt := 67) (pc' := 57) C dX3_notice_54 (by decide) rfl (fun c3 => ?_) (fun c3 => ?_)
        ·
          refine g_aload_n (pc' := 68) C dX3_notice_67 rfl rfl ?_
          refine f_X3_189 (pc' := 71) C dX3_notice_68 (by first | assumption | exact rfl | exact al13 rfl | exact Nat.le_of_ble_eq_true rfl) rfl ?_
          refine g_aload_n (pc' := 72) C dX3_notice_71 rfl rfl ?_
          refine f_X3_38 (pc' := 75) C dX3_notice_72 (by first | assumption | exact rfl | exact al13 rfl | exact Nat.le_of_ble_eq_true rfl) rfl ?_
          refine g_isub (pc' := 76) C dX3_notice_75 rfl ?_
          refine g_iconst (v := 4) (pc' := 77) C dX3_notice_76 (by decide) rfl ?_
          refine g_icmp_lt (tgt := 84) (pc' := 80) C dX3_notice_77 (by decide) rfl (fun c4 => ?_) (fun c4 => ?_)
          ·
            refine g_iconst (v := 0) (pc' := 85) C dX3_notice_84 (by decide) rfl ?_
            refine g_istore (pc' := 87) C dX3_notice_85 rfl rfl ?_
            refine g_iload (pc' := 89) C dX3_notice_87 rfl rfl ?_
            refine g_if_eq (tgt := 97) (pc' := 92) C dX3_notice_89 (by decide) rfl (fun c5 => ?_) (fun c5 => absurd (by first | decide | rw [thv]; decide) c5)
            refine g_iload (pc' := 99) C dX3_notice_97 rfl rfl ?_
            exact x_zret C hR dX3_notice_99 rfl (Nat.le_of_ble_eq_true rfl) (Nat.le_of_ble_eq_true rfl) ⟨by simp [cK11, cO11, hn, hcl, c1, c2, c3, c4, c5], by simp [cK11, cO11, hn, hcl, c1, c2, c3, c4, c5], rfl, rfl, by simp [cK11, cO11, hn, hcl, c1, c2, c3, c4, c5], rfl, rfl⟩
          ·
            refine g_iconst (v := 1) (pc' := 81) C dX3_notice_80 (by decide) rfl ?_
            refine g_goto (tgt := 85) C dX3_notice_81 (by decide) ?_
            refine g_istore (pc' := 87) C dX3_notice_85 rfl rfl ?_
            refine g_iload (pc' := 89) C dX3_notice_87 rfl rfl ?_
            refine g_if_eq (tgt := 97) (pc' := 92) C dX3_notice_89 (by decide) rfl (fun c6 => absurd c6 (by first | decide | rw [thv]; decide)) (fun c6 => ?_)
            refine g_aload_n (pc' := 93) C dX3_notice_92 rfl rfl ?_
            refine g_iload_n (pc' := 94) C dX3_notice_93 rfl rfl ?_
            refine k_X3_192 (pc' := 97) C (m_X0_tell hh (X.hm hh) hmx2) dX3_notice_94 (by first | assumption | exact rfl | exact al13 rfl | exact Nat.le_of_ble_eq_true rfl) ⟨⟨Nat.le_of_ble_eq_true rfl, Nat.le_of_ble_eq_true rfl⟩, rfl, rfl⟩ (Nat.le_of_ble_eq_true rfl) ⟨Nat.zero_le _, Nat.zero_le _⟩ rfl ?_
            refine g_iload (pc' := 99) C dX3_notice_97 rfl rfl ?_
            exact x_zret C hR dX3_notice_99 rfl (Nat.le_of_ble_eq_true rfl) (Nat.le_of_ble_eq_true rfl) ⟨by simp [cK11, cO11, hn, hcl, c1, c2, c3, c4, c6], by simp [cK11, cO11, hn, hcl, c1, c2, c3, c4, c6], rfl, rfl, by simp [cK11, cO11, hn, hcl, c1, c2, c3, c4, c6], rfl, rfl⟩
        ·
          exact x_thr C hR hT xwS (List.mem_of_getElem? (i := 24) rfl) ⟨⟨Nat.le_of_ble_eq_true rfl, Nat.le_of_ble_eq_true rfl⟩, Nat.le_of_ble_eq_true rfl, Nat.le_of_ble_eq_true rfl⟩ ⟨Nat.le_of_ble_eq_true rfl, Nat.le_of_ble_eq_true rfl⟩ dX3_notice_57 dX3_notice_60 dX3_notice_61 dX3_notice_63 dX3_notice_66 ⟨3, List.mem_of_getElem? (i := 2) rfl, by simp [cK11, hn, hcl, c1, c2, c3]⟩
      ·
        have c2 := b2_0.mp c2
        exact x_thr C hR hT xwA (List.mem_of_getElem? (i := 23) rfl) ⟨⟨Nat.le_of_ble_eq_true rfl, Nat.le_of_ble_eq_true rfl⟩, Nat.le_of_ble_eq_true rfl, Nat.le_of_ble_eq_true rfl⟩ ⟨Nat.le_of_ble_eq_true rfl, Nat.le_of_ble_eq_true rfl⟩ dX3_notice_40 dX3_notice_43 dX3_notice_44 dX3_notice_46 dX3_notice_49 ⟨2, List.mem_of_getElem? (i := 1) rfl, by simp [cK11, hn, hcl, c1, c2]⟩
    ·
      have c1 := b2_0.mp c1
      exact x_thr C hR hT xwI (List.mem_of_getElem? (i := 22) rfl) ⟨⟨Nat.le_of_ble_eq_true rfl, Nat.le_of_ble_eq_true rfl⟩, Nat.le_of_ble_eq_true rfl, Nat.le_of_ble_eq_true rfl⟩ ⟨Nat.le_of_ble_eq_true rfl, Nat.le_of_ble_eq_true rfl⟩ dX3_notice_19 dX3_notice_22 dX3_notice_23 dX3_notice_25 dX3_notice_28 ⟨1, List.mem_of_getElem? (i := 0) rfl, by simp [cK11, hn, hcl, c1]⟩
  · have hn : oM x z.2 = true := oM_T hx
    refine k_X3_149 (pc' := 5) C (m_X3_hearingAtN X hx) dX3_notice_2 (by first | assumption | exact rfl | exact al13 rfl | exact Nat.le_of_ble_eq_true rfl) ⟨⟨Nat.le_of_ble_eq_true rfl, Nat.le_of_ble_eq_true rfl⟩, rfl, rfl⟩ (Nat.le_of_ble_eq_true rfl) ⟨Nat.zero_le _, Nat.zero_le _⟩ rfl ?_
    refine g_astore_nN (pc' := 6) C dX3_notice_5 rfl rfl ?_
    refine g_aload_nN (pc' := 7) C dX3_notice_6 rfl rfl ?_
    refine g_ifnullN (tgt := 19) C dX3_notice_7 (by decide) ?_
    exact x_thr C hR hT xwI (List.mem_of_getElem? (i := 22) rfl) ⟨⟨Nat.le_of_ble_eq_true rfl, Nat.le_of_ble_eq_true rfl⟩, Nat.le_of_ble_eq_true rfl, Nat.le_of_ble_eq_true rfl⟩ ⟨Nat.le_of_ble_eq_true rfl, Nat.le_of_ble_eq_true rfl⟩ dX3_notice_19 dX3_notice_22 dX3_notice_23 dX3_notice_25 dX3_notice_28 ⟨1, List.mem_of_getElem? (i := 0) rfl, by simp [cK11, hn]⟩
set_option maxRecDepth 20000 in
theorem l_X3_pass {K : wK} {z : wZ} {O : wO} {g0 : wG} {z0 : wZ} {sz : Nat} {I0 : wI} {P0 : wP} {O0 : wO} {mc ms : Nat} {post : wPost} {xp : String → Prop} {P : wP} {mk : Nat} {x : Int32} (C : Cx K cX3_pass RX3 4 ((some .int)) { frames := 6, cells := 1, slots := 6, locals := 90 } z) (hR : Rq K g0 z0 sz I0 P0 O0 mc ms post xp) (hx : x = nI mk) (hmk : mk ≤ 50) : ∀ (n k : Nat) (x2 x3 : Int32) (I : wI), XI z I P → x3 = nI k → k + n = mk → post (some (.int (cPL P z n (I, x2)).2)) (Kg K) z (cPL P z n (I, x2)).1 P O → G K z I P O 0 0 47 [(0, .ref ((Kg K).2.2 0 0)), (1, .int x), (2, .int x2), (3, .int x3)] [] := by
  intro n
  induction n with
  | zero =>
    intro k x2 x3 I X ex3 hk hpost
    refine g_iload_n (pc' := 48) C dX3_pass_47 rfl rfl ?_
    refine g_iload_n (pc' := 49) C dX3_pass_48 rfl rfl ?_
    refine g_icmp_ge (tgt := 79) (pc' := 52) C dX3_pass_49 (by decide) rfl (fun c1 => ?_) (fun c1 => absurd (by rw [ex3, show k = mk by omega, hx]; exact Int32.le_refl _) c1)
    refine g_iload_n (pc' := 80) C dX3_pass_79 rfl rfl ?_
    exact x_iret C hR dX3_pass_80 (Nat.zero_le _) (Nat.zero_le _) hpost
  | succ n ih =>
    intro k x2 x3 I X ex3 hk hpost
    refine g_iload_n (pc' := 48) C dX3_pass_47 rfl rfl ?_
    refine g_iload_n (pc' := 49) C dX3_pass_48 rfl rfl ?_
    refine g_icmp_ge (tgt := 79) (pc' := 52) C dX3_pass_49 (by decide) rfl (fun c1 => absurd c1 (by rw [ex3, hx]; exact nI_ge (by omega) (by omega))) (fun c1 => ?_)
    have X1 : XI z (upI I 0 0 6 (I 0 0 6 + 1)) P := XI.upI X _ (by omega) (by omega) (by omega)
    have X2 := XI.ehL' z.2 0 (upI I 0 0 6 (I 0 0 6 + 1), 0) X1
    refine g_aload_n (pc' := 53) C dX3_pass_52 rfl rfl ?_
    refine g_dup (pc' := 54) C dX3_pass_53 rfl rfl ?_
    refine f_X3_38 (pc' := 57) C dX3_pass_54 (by first | assumption | exact rfl | exact al13 rfl | exact Nat.le_of_ble_eq_true rfl) rfl ?_
    refine g_iconst (v := 1) (pc' := 58) C dX3_pass_57 (by decide) rfl ?_
    refine g_iadd (pc' := 59) C dX3_pass_58 rfl ?_
    refine p_X3_38 (pc' := 62) C dX3_pass_59 (by first | assumption | exact rfl | exact al13 rfl | exact Nat.le_of_ble_eq_true rfl) rfl ?_
    refine g_iload_n (pc' := 63) C dX3_pass_62 rfl rfl ?_
    refine g_aload_n (pc' := 64) C dX3_pass_63 rfl rfl ?_
    refine k_X3_200 (pc' := 67) C (m_X3_endHearings X1) dX3_pass_64 (by first | assumption | exact rfl | exact al13 rfl | exact Nat.le_of_ble_eq_true rfl) ⟨⟨Nat.le_of_ble_eq_true rfl, Nat.le_of_ble_eq_true rfl⟩, rfl, rfl⟩ (Nat.le_of_ble_eq_true rfl) ⟨Nat.zero_le _, Nat.zero_le _⟩ rfl ?_
    refine g_iadd (pc' := 68) C dX3_pass_67 rfl ?_
    refine g_istore_n (pc' := 69) C dX3_pass_68 rfl rfl ?_
    refine g_aload_n (pc' := 70) C dX3_pass_69 rfl rfl ?_
    refine k_X3_204 (pc' := 73) C (m_X3_runTerms X2) dX3_pass_70 (by first | assumption | exact rfl | exact al13 rfl | exact Nat.le_of_ble_eq_true rfl) ⟨⟨Nat.le_of_ble_eq_true rfl, Nat.le_of_ble_eq_true rfl⟩, rfl, rfl⟩ (Nat.le_of_ble_eq_true rfl) ⟨Nat.zero_le _, Nat.zero_le _⟩ rfl ?_
    refine g_iinc (pc' := 76) C dX3_pass_73 rfl (ii1 _) rfl rfl ?_
    refine g_goto (tgt := 47) C dX3_pass_76 (by decide) ?_
    exact G_pick [0, 1, 2, 3] rfl (ih (k + 1) _ _ _ (XI.cPS (s := (I, x2)) X) (by rw [ex3]; exact nI_1 k) (by omega) hpost)
set_option maxRecDepth 20000 in
theorem m_X3_pass {l : Launch} (hfl : l.stackTraces = false) {g : wG} {z : wZ} {I : wI} {P : wP} {O : wO} {x : Int32} (X : XI z I P) (sz : Nat) : XT l yX3_pass (.code yX3_pass cX3_pass 4 ((some .int))) { frames := 6, cells := 1, slots := 6, locals := 90 } g z sz [.ref (g.2.2 0 0), .int x] I P O 1 6 (pX (cK12 (I 0 0 6) x) g z (some (.int (cPL P z x.toNatClampNeg (I, 0)).2)) ((cPL P z x.toNatClampNeg (I, 0)).1) (P) O) (xE [(1, tA), (2, tS)] (cK12 (I 0 0 6) x)) := by
  refine XT.of (own := RX3) rfl (by decide +kernel) hfl (Nat.le_of_ble_eq_true rfl) rfl (fun K C hl hg hR hT => ?_)
  subst hl
  subst hg
  refine g_iload_n (pc' := 1) C dX3_pass_0 rfl rfl ?_
  refine g_iconst (v := 1) (pc' := 2) C dX3_pass_1 (by decide) rfl ?_
  refine g_icmp_lt (tgt := 11) (pc' := 5) C dX3_pass_2 (by decide) rfl (fun c1 => ?_) (fun c1 => ?_)
  ·
    exact x_thr C hR hT xwA (List.mem_of_getElem? (i := 6) rfl) ⟨⟨Nat.le_of_ble_eq_true rfl, Nat.le_of_ble_eq_true rfl⟩, Nat.le_of_ble_eq_true rfl, Nat.le_of_ble_eq_true rfl⟩ ⟨Nat.le_of_ble_eq_true rfl, Nat.le_of_ble_eq_true rfl⟩ dX3_pass_11 dX3_pass_14 dX3_pass_15 dX3_pass_17 dX3_pass_20 ⟨1, List.mem_of_getElem? (i := 0) rfl, by simp [cK12, c1]⟩
  ·
    refine g_iload_n (pc' := 6) C dX3_pass_5 rfl rfl ?_
    refine g_bipush (v := 50) (pc' := 8) C dX3_pass_6 (by decide) rfl ?_
    refine g_icmp_le (tgt := 21) (pc' := 11) C dX3_pass_8 (by decide) rfl (fun c2 => ?_) (fun c2 => ?_)
    ·
      refine g_aload_n (pc' := 22) C dX3_pass_21 rfl rfl ?_
      refine f_X3_38 (pc' := 25) C dX3_pass_22 (by first | assumption | exact rfl | exact al13 rfl | exact Nat.le_of_ble_eq_true rfl) rfl ?_
      refine g_iload_n (pc' := 26) C dX3_pass_25 rfl rfl ?_
      refine g_iadd (pc' := 27) C dX3_pass_26 rfl ?_
      refine g_sipush (v := 1000) (pc' := 30) C dX3_pass_27 (by decide) rfl ?_
      refine g_icmp_le (tgt := 43) (pc' := 33) C dX3_pass_30 (by decide) rfl (fun c3 => ?_) (fun c3 => ?_)
      ·
        refine g_iconst (v := 0) (pc' := 44) C dX3_pass_43 (by decide) rfl ?_
        refine g_istore_n (pc' := 45) C dX3_pass_44 rfl rfl ?_
        refine g_iconst (v := 0) (pc' := 46) C dX3_pass_45 (by decide) rfl ?_
        refine g_istore_n (pc' := 47) C dX3_pass_46 rfl rfl ?_
        obtain ⟨k, hk50, hxk⟩ : ∃ k, k ≤ 50 ∧ x = nI k := ⟨x.toInt.toNat, by simp only [Int32.le_iff_toInt_le] at c2; rw [show (50 : Int32).toInt = 50 from by decide] at c2; omega, nI_nat (by simp only [Int32.lt_iff_toInt_lt] at c1; rw [show (1 : Int32).toInt = 1 from by decide] at c1; omega)⟩
        have hcl : x.toNatClampNeg = k := by rw [hxk]; exact nI_clamp (by omega)
        refine l_X3_pass C hR hxk hk50 k 0 0 0 I X nI_0.symm (by omega) ⟨?_, ?_, rfl, rfl, ?_, rfl, rfl⟩ <;> simp [cK12, hcl, c1, c2, c3]
      ·
        exact x_thr C hR hT xwS (List.mem_of_getElem? (i := 7) rfl) ⟨⟨Nat.le_of_ble_eq_true rfl, Nat.le_of_ble_eq_true rfl⟩, Nat.le_of_ble_eq_true rfl, Nat.le_of_ble_eq_true rfl⟩ ⟨Nat.le_of_ble_eq_true rfl, Nat.le_of_ble_eq_true rfl⟩ dX3_pass_33 dX3_pass_36 dX3_pass_37 dX3_pass_39 dX3_pass_42 ⟨2, List.mem_of_getElem? (i := 1) rfl, by simp [cK12, c1, c2, c3]⟩
    ·
      exact x_thr C hR hT xwA (List.mem_of_getElem? (i := 6) rfl) ⟨⟨Nat.le_of_ble_eq_true rfl, Nat.le_of_ble_eq_true rfl⟩, Nat.le_of_ble_eq_true rfl, Nat.le_of_ble_eq_true rfl⟩ ⟨Nat.le_of_ble_eq_true rfl, Nat.le_of_ble_eq_true rfl⟩ dX3_pass_11 dX3_pass_14 dX3_pass_15 dX3_pass_17 dX3_pass_20 ⟨1, List.mem_of_getElem? (i := 0) rfl, by simp [cK12, c1, c2]⟩
set_option maxRecDepth 20000 in
theorem m_X3_clash {l : Launch} (hfl : l.stackTraces = false) {g : wG} {z : wZ} {I : wI} {P : wP} {O : wO} {x r w a y : Int32} (X : XI z I P) (sz : Nat) : XT l yX3_clash (.code yX3_clash cX3_clash 7 ((some .int))) { frames := 6, cells := 1, slots := 6, locals := 96 } g z sz [.ref (g.2.2 0 0), .int x, .int r, .int w, .int a, .int y] I P O 1 6 (pX (cK13 z.1 x r w a y) g z (some (.int (crL I P none x.toNatClampNeg r w a y z.2 0 0))) (I) (P) O) (xE [(1, tI), (2, tA)] (cK13 z.1 x r w a y)) := by
  refine XT.of (own := RX3) rfl (by decide +kernel) hfl (Nat.le_of_ble_eq_true rfl) rfl (fun K C hl hg hR hT => ?_)
  subst hl
  subst hg
  refine g_aload_n (pc' := 1) C dX3_clash_0 rfl rfl ?_
  refine g_iload_n (pc' := 2) C dX3_clash_1 rfl rfl ?_
  rcases in_of x z.1 (by have := X.1; have := X.2.1; omega) with ⟨j, hj, hxj⟩ | hx
  · have hn : oM x z.1 = false := oM_F hj hxj (by have := X.1; have := X.2.1; omega)
    have hcl : x.toNatClampNeg = j := by rw [hxj]; exact nI_clamp (by have := X.1; have := X.2.1; omega)
    have hm2 : wAl z 2 j := hj
    refine k_X3_95 (pc' := 5) C (m_X3_matterAtS X hxj hj) dX3_clash_2 (by first | assumption | exact rfl | exact al13 rfl | exact Nat.le_of_ble_eq_true rfl) ⟨⟨Nat.le_of_ble_eq_true rfl, Nat.le_of_ble_eq_true rfl⟩, rfl, rfl⟩ (Nat.le_of_ble_eq_true rfl) ⟨Nat.zero_le _, Nat.zero_le _⟩ rfl ?_
    refine g_astore (pc' := 7) C dX3_clash_5 rfl rfl ?_
    refine g_aload (pc' := 9) C dX3_clash_7 rfl rfl ?_
    refine g_ifnull (pc' := 12) C dX3_clash_9 rfl ?_
    refine g_iload_n (pc' := 13) C dX3_clash_12 rfl rfl ?_
    refine g_iconst (v := 4) (pc' := 14) C dX3_clash_13 (by decide) rfl ?_
    refine k_X3_66 (pc' := 17) C (m_X3_isIn) dX3_clash_14 ⟨⟨Nat.le_of_ble_eq_true rfl, Nat.le_of_ble_eq_true rfl⟩, rfl, rfl⟩ (Nat.le_of_ble_eq_true rfl) ⟨Nat.zero_le _, Nat.zero_le _⟩ rfl ?_
    refine g_if_eq (tgt := 28) (pc' := 20) C dX3_clash_17 (by decide) rfl (fun c1 => ?_) (fun c1 => ?_)
    ·
      have c1 := b2_0.mp c1
      exact x_thr C hR hT xwI (List.mem_of_getElem? (i := 8) rfl) ⟨⟨Nat.le_of_ble_eq_true rfl, Nat.le_of_ble_eq_true rfl⟩, Nat.le_of_ble_eq_true rfl, Nat.le_of_ble_eq_true rfl⟩ ⟨Nat.le_of_ble_eq_true rfl, Nat.le_of_ble_eq_true rfl⟩ dX3_clash_28 dX3_clash_31 dX3_clash_32 dX3_clash_34 dX3_clash_37 ⟨1, List.mem_of_getElem? (i := 0) rfl, by simp [cK13, inN, hn, hcl, c1]⟩
    ·
      have c1 := b2_1.mp c1
      refine g_iload_n (pc' := 21) C dX3_clash_20 rfl rfl ?_
      refine g_iconst (v := 4) (pc' := 22) C dX3_clash_21 (by decide) rfl ?_
      refine k_X3_70 (pc' := 25) C (m_X3_isInOrNone) dX3_clash_22 ⟨⟨Nat.le_of_ble_eq_true rfl, Nat.le_of_ble_eq_true rfl⟩, rfl, rfl⟩ (Nat.le_of_ble_eq_true rfl) ⟨Nat.zero_le _, Nat.zero_le _⟩ rfl ?_
      refine g_if_ne (tgt := 38) (pc' := 28) C dX3_clash_25 (by decide) rfl (fun c2 => ?_) (fun c2 => ?_)
      ·
        have c2 := b2_1.mp c2
        refine g_iload (pc' := 40) C dX3_clash_38 rfl rfl ?_
        refine g_if_lt (tgt := 63) (pc' := 43) C dX3_clash_40 (by decide) rfl (fun c3 => ?_) (fun c3 => ?_)
        ·
          exact x_thr C hR hT xwA (List.mem_of_getElem? (i := 9) rfl) ⟨⟨Nat.le_of_ble_eq_true rfl, Nat.le_of_ble_eq_true rfl⟩, Nat.le_of_ble_eq_true rfl, Nat.le_of_ble_eq_true rfl⟩ ⟨Nat.le_of_ble_eq_true rfl, Nat.le_of_ble_eq_true rfl⟩ dX3_clash_63 dX3_clash_66 dX3_clash_67 dX3_clash_69 dX3_clash_72 ⟨2, List.mem_of_getElem? (i := 1) rfl, by simp [cK13, inN, hn, hcl, c1, c2, c3]⟩
        ·
          refine g_iload (pc' := 45) C dX3_clash_43 rfl rfl ?_
          refine g_sipush (v := 999) (pc' := 48) C dX3_clash_45 (by decide) rfl ?_
          refine g_icmp_gt (tgt := 63) (pc' := 51) C dX3_clash_48 (by decide) rfl (fun c4 => ?_) (fun c4 => ?_)
          ·
            exact x_thr C hR hT xwA (List.mem_of_getElem? (i := 9) rfl) ⟨⟨Nat.le_of_ble_eq_true rfl, Nat.le_of_ble_eq_true rfl⟩, Nat.le_of_ble_eq_true rfl, Nat.le_of_ble_eq_true rfl⟩ ⟨Nat.le_of_ble_eq_true rfl, Nat.le_of_ble_eq_true rfl⟩ dX3_clash_63 dX3_clash_66 dX3_clash_67 dX3_clash_69 dX3_clash_72 ⟨2, List.mem_of_getElem? (i := 1) rfl, by simp [cK13, inN, hn, hcl, c1, c2, c3, c4]⟩
          ·
            refine g_iload (pc' := 53) C dX3_clash_51 rfl rfl ?_
            refine g_iconst (v := 1) (pc' := 54) C dX3_clash_53 (by decide) rfl ?_
            refine g_icmp_lt (tgt := 63) (pc' := 57) C dX3_clash_54 (by decide) rfl (fun c5 => ?_) (fun c5 => ?_)
            ·
              exact x_thr C hR hT xwA (List.mem_of_getElem? (i := 9) rfl) ⟨⟨Nat.le_of_ble_eq_true rfl, Nat.le_of_ble_eq_true rfl⟩, Nat.le_of_ble_eq_true rfl, Nat.le_of_ble_eq_true rfl⟩ ⟨Nat.le_of_ble_eq_true rfl, Nat.le_of_ble_eq_true rfl⟩ dX3_clash_63 dX3_clash_66 dX3_clash_67 dX3_clash_69 dX3_clash_72 ⟨2, List.mem_of_getElem? (i := 1) rfl, by simp [cK13, inN, hn, hcl, c1, c2, c3, c4, c5]⟩
            ·
              refine g_iload (pc' := 59) C dX3_clash_57 rfl rfl ?_
              refine g_iconst (v := 4) (pc' := 60) C dX3_clash_59 (by decide) rfl ?_
              refine g_icmp_le (tgt := 73) (pc' := 63) C dX3_clash_60 (by decide) rfl (fun c6 => ?_) (fun c6 => ?_)
              ·
                refine g_aload_n (pc' := 74) C dX3_clash_73 rfl rfl ?_
                refine g_null (pc' := 75) C dX3_clash_74 rfl ?_
                refine g_aload (pc' := 77) C dX3_clash_75 rfl rfl ?_
                refine g_iload_n (pc' := 78) C dX3_clash_77 rfl rfl ?_
                refine g_iload_n (pc' := 79) C dX3_clash_78 rfl rfl ?_
                refine g_iload (pc' := 81) C dX3_clash_79 rfl rfl ?_
                refine g_iload (pc' := 83) C dX3_clash_81 rfl rfl ?_
                refine k_X3_135 (pc' := 86) C (m_X3_clashReasonN X hm2) dX3_clash_83 (by first | assumption | exact rfl | exact al13 rfl | exact Nat.le_of_ble_eq_true rfl) ⟨⟨Nat.le_of_ble_eq_true rfl, Nat.le_of_ble_eq_true rfl⟩, rfl, rfl⟩ (Nat.le_of_ble_eq_true rfl) ⟨Nat.zero_le _, Nat.zero_le _⟩ rfl ?_
                exact x_iret C hR dX3_clash_86 (Nat.le_of_ble_eq_true rfl) (Nat.le_of_ble_eq_true rfl) ⟨by simp [cK13, inN, hn, hcl, c1, c2, c3, c4, c5, c6], by simp [cK13, inN, hn, hcl, c1, c2, c3, c4, c5, c6], rfl, rfl, by simp [cK13, inN, hn, hcl, c1, c2, c3, c4, c5, c6], rfl, rfl⟩
              ·
                exact x_thr C hR hT xwA (List.mem_of_getElem? (i := 9) rfl) ⟨⟨Nat.le_of_ble_eq_true rfl, Nat.le_of_ble_eq_true rfl⟩, Nat.le_of_ble_eq_true rfl, Nat.le_of_ble_eq_true rfl⟩ ⟨Nat.le_of_ble_eq_true rfl, Nat.le_of_ble_eq_true rfl⟩ dX3_clash_63 dX3_clash_66 dX3_clash_67 dX3_clash_69 dX3_clash_72 ⟨2, List.mem_of_getElem? (i := 1) rfl, by simp [cK13, inN, hn, hcl, c1, c2, c3, c4, c5, c6]⟩
      ·
        have c2 := b2_0.mp c2
        exact x_thr C hR hT xwI (List.mem_of_getElem? (i := 8) rfl) ⟨⟨Nat.le_of_ble_eq_true rfl, Nat.le_of_ble_eq_true rfl⟩, Nat.le_of_ble_eq_true rfl, Nat.le_of_ble_eq_true rfl⟩ ⟨Nat.le_of_ble_eq_true rfl, Nat.le_of_ble_eq_true rfl⟩ dX3_clash_28 dX3_clash_31 dX3_clash_32 dX3_clash_34 dX3_clash_37 ⟨1, List.mem_of_getElem? (i := 0) rfl, by simp [cK13, inN, hn, hcl, c1, c2]⟩
  · have hn : oM x z.1 = true := oM_T hx
    refine k_X3_95 (pc' := 5) C (m_X3_matterAtN X hx) dX3_clash_2 (by first | assumption | exact rfl | exact al13 rfl | exact Nat.le_of_ble_eq_true rfl) ⟨⟨Nat.le_of_ble_eq_true rfl, Nat.le_of_ble_eq_true rfl⟩, rfl, rfl⟩ (Nat.le_of_ble_eq_true rfl) ⟨Nat.zero_le _, Nat.zero_le _⟩ rfl ?_
    refine g_astoreN (pc' := 7) C dX3_clash_5 rfl rfl ?_
    refine g_aloadN (pc' := 9) C dX3_clash_7 rfl rfl ?_
    refine g_ifnullN (tgt := 28) C dX3_clash_9 (by decide) ?_
    exact x_thr C hR hT xwI (List.mem_of_getElem? (i := 8) rfl) ⟨⟨Nat.le_of_ble_eq_true rfl, Nat.le_of_ble_eq_true rfl⟩, Nat.le_of_ble_eq_true rfl, Nat.le_of_ble_eq_true rfl⟩ ⟨Nat.le_of_ble_eq_true rfl, Nat.le_of_ble_eq_true rfl⟩ dX3_clash_28 dX3_clash_31 dX3_clash_32 dX3_clash_34 dX3_clash_37 ⟨1, List.mem_of_getElem? (i := 0) rfl, by simp [cK13, inN, hn]⟩
set_option maxRecDepth 20000 in
theorem l_X3_at {K : wK} {z : wZ} {O : wO} {g0 : wG} {z0 : wZ} {sz : Nat} {I0 : wI} {P0 : wP} {O0 : wO} {mc ms : Nat} {post : wPost} {xp : String → Prop} {I : wI} {P : wP} {x y w : Int32} (C : Cx K cX3_at RX3 6 ((some .int)) { frames := 6, cells := 1, slots := 6, locals := 90 } z) (hR : Rq K g0 z0 sz I0 P0 O0 mc ms post xp) (X : XI z I P) : ∀ (n h : Nat) (x4 : Int32), x4 = nI h → h + n = z.2 → post (some (.int (caL I P x y w n h))) (Kg K) z I P O → G K z I P O 0 0 49 [(0, .ref ((Kg K).2.2 0 0)), (1, .int x), (2, .int y), (3, .int w), (4, .int x4)] [] := by
  intro n
  induction n with
  | zero =>
    intro h x4 ex4 hk hpost
    refine g_iload (pc' := 51) C dX3_at_49 rfl rfl ?_
    refine g_aload_n (pc' := 52) C dX3_at_51 rfl rfl ?_
    refine f_X3_35 (pc' := 55) C dX3_at_52 (by first | assumption | exact rfl | exact al13 rfl | exact Nat.le_of_ble_eq_true rfl) rfl ?_
    refine g_icmp_ge (tgt := 103) (pc' := 58) C dX3_at_55 (by decide) rfl (fun c1 => ?_) (fun c1 => absurd (by rw [ex4, X.2.2.2.1, show h = z.2 by omega]; exact Int32.le_refl _) c1)
    refine g_iconst (v := (-1)) (pc' := 104) C dX3_at_103 (by decide) rfl ?_
    exact x_iret C hR dX3_at_104 (Nat.zero_le _) (Nat.zero_le _) hpost
  | succ n ih =>
    intro h x4 ex4 hk hpost
    have hhz : h < z.2 := by omega
    have hh : wAl z 3 h := hhz
    refine g_iload (pc' := 51) C dX3_at_49 rfl rfl ?_
    refine g_aload_n (pc' := 52) C dX3_at_51 rfl rfl ?_
    refine f_X3_35 (pc' := 55) C dX3_at_52 (by first | assumption | exact rfl | exact al13 rfl | exact Nat.le_of_ble_eq_true rfl) rfl ?_
    refine g_icmp_ge (tgt := 103) (pc' := 58) C dX3_at_55 (by decide) rfl (fun c1 => absurd c1 (by rw [ex4, X.2.2.2.1]; exact nI_ge hhz (by have := X.2.1; omega))) (fun c1 => ?_)
    refine g_aload_n (pc' := 59) C dX3_at_58 rfl rfl ?_
    refine g_iload (pc' := 61) C dX3_at_59 rfl rfl ?_
    refine k_X3_149 (pc' := 64) C (m_X3_hearingAtS X ex4 hhz) dX3_at_61 (by first | assumption | exact rfl | exact al13 rfl | exact Nat.le_of_ble_eq_true rfl) ⟨⟨Nat.le_of_ble_eq_true rfl, Nat.le_of_ble_eq_true rfl⟩, rfl, rfl⟩ (Nat.le_of_ble_eq_true rfl) ⟨Nat.zero_le _, Nat.zero_le _⟩ rfl ?_
    refine g_astore (pc' := 66) C dX3_at_64 rfl rfl ?_
    refine g_aload (pc' := 68) C dX3_at_66 rfl rfl ?_
    refine g_ifnull (pc' := 71) C dX3_at_68 rfl ?_
    refine g_aload (pc' := 73) C dX3_at_71 rfl rfl ?_
    refine g_iload_n (pc' := 74) C dX3_at_73 rfl rfl ?_
    refine g_iconst (v := 1) (pc' := 75) C dX3_at_74 (by decide) rfl ?_
    refine k_X3_218 (pc' := 78) C (m_X0_takesPartOf hh) dX3_at_75 (by first | assumption | exact rfl | exact al13 rfl | exact Nat.le_of_ble_eq_true rfl) ⟨⟨Nat.le_of_ble_eq_true rfl, Nat.le_of_ble_eq_true rfl⟩, rfl, rfl⟩ (Nat.le_of_ble_eq_true rfl) ⟨Nat.zero_le _, Nat.zero_le _⟩ rfl ?_
    refine g_if_eq (tgt := 97) (pc' := 81) C dX3_at_78 (by decide) rfl (fun c2 => ?_) (fun c2 => ?_)
    ·
      have c2 := b2_0.mp c2
      refine g_iinc (pc' := 100) C dX3_at_97 rfl (ii1 _) rfl rfl ?_
      refine g_goto (tgt := 49) C dX3_at_100 (by decide) ?_
      exact G_pick [0, 1, 2, 3, 4] rfl (ih (h + 1) _ (by rw [ex4]; exact nI_1 h) (by omega) (by simpa [caL, c1, c2] using hpost))
    ·
      have c2 := b2_1.mp c2
      refine g_aload (pc' := 83) C dX3_at_81 rfl rfl ?_
      refine g_iload_n (pc' := 84) C dX3_at_83 rfl rfl ?_
      refine g_iload_n (pc' := 85) C dX3_at_84 rfl rfl ?_
      refine k_X3_221 (pc' := 88) C (m_X0_needs hh (X.hm hh) (X.hm2 hh)) dX3_at_85 (by first | assumption | exact rfl | exact al13 rfl | exact Nat.le_of_ble_eq_true rfl) ⟨⟨Nat.le_of_ble_eq_true rfl, Nat.le_of_ble_eq_true rfl⟩, rfl, rfl⟩ (Nat.le_of_ble_eq_true rfl) ⟨Nat.zero_le _, Nat.zero_le _⟩ rfl ?_
      refine g_if_eq (tgt := 97) (pc' := 91) C dX3_at_88 (by decide) rfl (fun c3 => ?_) (fun c3 => ?_)
      ·
        have c3 := b2_0.mp c3
        refine g_iinc (pc' := 100) C dX3_at_97 rfl (ii1 _) rfl rfl ?_
        refine g_goto (tgt := 49) C dX3_at_100 (by decide) ?_
        exact G_pick [0, 1, 2, 3, 4] rfl (ih (h + 1) _ (by rw [ex4]; exact nI_1 h) (by omega) (by simpa [caL, c1, c2, c3] using hpost))
      ·
        have c3 := b2_1.mp c3
        refine g_aload (pc' := 93) C dX3_at_91 rfl rfl ?_
        refine f_X3_148 (pc' := 96) C dX3_at_93 (by first | assumption | exact rfl | exact al13 rfl | exact Nat.le_of_ble_eq_true rfl) rfl ?_
        exact x_iret C hR dX3_at_96 (Nat.zero_le _) (Nat.zero_le _) (by simpa [caL, c1, c2, c3] using hpost)
set_option maxRecDepth 20000 in
theorem m_X3_at {l : Launch} (hfl : l.stackTraces = false) {g : wG} {z : wZ} {I : wI} {P : wP} {O : wO} {x y w : Int32} (X : XI z I P) (sz : Nat) : XT l yX3_at (.code yX3_at cX3_at 6 ((some .int))) { frames := 6, cells := 1, slots := 6, locals := 90 } g z sz [.ref (g.2.2 0 0), .int x, .int y, .int w] I P O 1 6 (pX (cK14 x y w) g z (some (.int (caL I P x y w z.2 0))) (I) (P) O) (xE [(1, tA), (2, tI)] (cK14 x y w)) := by
  refine XT.of (own := RX3) rfl (by decide +kernel) hfl (Nat.le_of_ble_eq_true rfl) rfl (fun K C hl hg hR hT => ?_)
  subst hl
  subst hg
  refine g_iload_n (pc' := 1) C dX3_at_0 rfl rfl ?_
  refine g_iconst (v := 4) (pc' := 2) C dX3_at_1 (by decide) rfl ?_
  refine k_X3_66 (pc' := 5) C (m_X3_isIn) dX3_at_2 ⟨⟨Nat.le_of_ble_eq_true rfl, Nat.le_of_ble_eq_true rfl⟩, rfl, rfl⟩ (Nat.le_of_ble_eq_true rfl) ⟨Nat.zero_le _, Nat.zero_le _⟩ rfl ?_
  refine g_if_ne (tgt := 18) (pc' := 8) C dX3_at_5 (by decide) rfl (fun c1 => ?_) (fun c1 => ?_)
  ·
    have c1 := b2_1.mp c1
    refine g_iload_n (pc' := 19) C dX3_at_18 rfl rfl ?_
    refine g_iload_n (pc' := 20) C dX3_at_19 rfl rfl ?_
    refine k_X3_209 (pc' := 23) C (m_X3_howMany) dX3_at_20 ⟨⟨Nat.le_of_ble_eq_true rfl, Nat.le_of_ble_eq_true rfl⟩, rfl, rfl⟩ (Nat.le_of_ble_eq_true rfl) ⟨Nat.zero_le _, Nat.zero_le _⟩ rfl ?_
    refine k_X3_66 (pc' := 26) C (m_X3_isIn) dX3_at_23 ⟨⟨Nat.le_of_ble_eq_true rfl, Nat.le_of_ble_eq_true rfl⟩, rfl, rfl⟩ (Nat.le_of_ble_eq_true rfl) ⟨Nat.zero_le _, Nat.zero_le _⟩ rfl ?_
    refine g_if_eq (tgt := 36) (pc' := 29) C dX3_at_26 (by decide) rfl (fun c2 => ?_) (fun c2 => ?_)
    ·
      have c2 := b2_0.mp c2
      exact x_thr C hR hT xwI (List.mem_of_getElem? (i := 28) rfl) ⟨⟨Nat.le_of_ble_eq_true rfl, Nat.le_of_ble_eq_true rfl⟩, Nat.le_of_ble_eq_true rfl, Nat.le_of_ble_eq_true rfl⟩ ⟨Nat.le_of_ble_eq_true rfl, Nat.le_of_ble_eq_true rfl⟩ dX3_at_36 dX3_at_39 dX3_at_40 dX3_at_42 dX3_at_45 ⟨2, List.mem_of_getElem? (i := 1) rfl, by simp [cK14, hmN, ich, c1, c2]⟩
    ·
      have c2 := b2_1.mp c2
      refine g_iload_n (pc' := 30) C dX3_at_29 rfl rfl ?_
      refine k_X3_213 (pc' := 33) C (m_X3_isCalendarHour) dX3_at_30 ⟨⟨Nat.le_of_ble_eq_true rfl, Nat.le_of_ble_eq_true rfl⟩, rfl, rfl⟩ (Nat.le_of_ble_eq_true rfl) ⟨Nat.zero_le _, Nat.zero_le _⟩ rfl ?_
      refine g_if_ne (tgt := 46) (pc' := 36) C dX3_at_33 (by decide) rfl (fun c3 => ?_) (fun c3 => ?_)
      ·
        have c3 := b2_1.mp c3
        refine g_iconst (v := 0) (pc' := 47) C dX3_at_46 (by decide) rfl ?_
        refine g_istore (pc' := 49) C dX3_at_47 rfl rfl ?_
        exact l_X3_at C hR X z.2 0 0 nI_0.symm (by omega) ⟨by simp [cK14, hmN, ich, c1, c2, c3], rfl, rfl, rfl, rfl, rfl, rfl⟩
      ·
        have c3 := b2_0.mp c3
        exact x_thr C hR hT xwI (List.mem_of_getElem? (i := 28) rfl) ⟨⟨Nat.le_of_ble_eq_true rfl, Nat.le_of_ble_eq_true rfl⟩, Nat.le_of_ble_eq_true rfl, Nat.le_of_ble_eq_true rfl⟩ ⟨Nat.le_of_ble_eq_true rfl, Nat.le_of_ble_eq_true rfl⟩ dX3_at_36 dX3_at_39 dX3_at_40 dX3_at_42 dX3_at_45 ⟨2, List.mem_of_getElem? (i := 1) rfl, by simp [cK14, hmN, ich, c1, c2, c3]⟩
  ·
    have c1 := b2_0.mp c1
    exact x_thr C hR hT xwA (List.mem_of_getElem? (i := 26) rfl) ⟨⟨Nat.le_of_ble_eq_true rfl, Nat.le_of_ble_eq_true rfl⟩, Nat.le_of_ble_eq_true rfl, Nat.le_of_ble_eq_true rfl⟩ ⟨Nat.le_of_ble_eq_true rfl, Nat.le_of_ble_eq_true rfl⟩ dX3_at_8 dX3_at_11 dX3_at_12 dX3_at_14 dX3_at_17 ⟨1, List.mem_of_getElem? (i := 0) rfl, by simp [cK14, hmN, ich, c1]⟩
set_option maxRecDepth 20000 in
theorem m_X3_about {l : Launch} (hfl : l.stackTraces = false) {g : wG} {z : wZ} {I : wI} {P : wP} {O : wO} {x y : Int32} (X : XI z I P) (sz : Nat) : XT l yX3_about (.code yX3_about cX3_about 4 ((some .int))) { frames := 6, cells := 1, slots := 6, locals := 90 } g z sz [.ref (g.2.2 0 0), .int x, .int y] I P O 1 6 (pX (cK15 z.1 x y) g z (some (.int (cV15 I P x.toNatClampNeg y))) (I) (P) O) (xE [(1, tI), (2, tA)] (cK15 z.1 x y)) := by
  refine XT.of (own := RX3) rfl (by decide +kernel) hfl (Nat.le_of_ble_eq_true rfl) rfl (fun K C hl hg hR hT => ?_)
  subst hl
  subst hg
  refine g_aload_n (pc' := 1) C dX3_about_0 rfl rfl ?_
  refine g_iload_n (pc' := 2) C dX3_about_1 rfl rfl ?_
  rcases in_of x z.1 (by have := X.1; have := X.2.1; omega) with ⟨j, hj, hxj⟩ | hx
  · have hn : oM x z.1 = false := oM_F hj hxj (by have := X.1; have := X.2.1; omega)
    have hcl : x.toNatClampNeg = j := by rw [hxj]; exact nI_clamp (by have := X.1; have := X.2.1; omega)
    have hm2 : wAl z 2 j := hj
    refine k_X3_95 (pc' := 5) C (m_X3_matterAtS X hxj hj) dX3_about_2 (by first | assumption | exact rfl | exact al13 rfl | exact Nat.le_of_ble_eq_true rfl) ⟨⟨Nat.le_of_ble_eq_true rfl, Nat.le_of_ble_eq_true rfl⟩, rfl, rfl⟩ (Nat.le_of_ble_eq_true rfl) ⟨Nat.zero_le _, Nat.zero_le _⟩ rfl ?_
    refine g_astore_n (pc' := 6) C dX3_about_5 rfl rfl ?_
    refine g_aload_n (pc' := 7) C dX3_about_6 rfl rfl ?_
    refine g_ifnonnull (tgt := 20) C dX3_about_7 (by decide) ?_
    refine g_iload_n (pc' := 21) C dX3_about_20 rfl rfl ?_
    refine g_bipush (v := 8) (pc' := 23) C dX3_about_21 (by decide) rfl ?_
    refine k_X3_66 (pc' := 26) C (m_X3_isIn) dX3_about_23 ⟨⟨Nat.le_of_ble_eq_true rfl, Nat.le_of_ble_eq_true rfl⟩, rfl, rfl⟩ (Nat.le_of_ble_eq_true rfl) ⟨Nat.zero_le _, Nat.zero_le _⟩ rfl ?_
    refine g_if_ne (tgt := 39) (pc' := 29) C dX3_about_26 (by decide) rfl (fun c1 => ?_) (fun c1 => ?_)
    ·
      have c1 := b2_1.mp c1
      refine g_iload_n (pc' := 40) C dX3_about_39 rfl rfl ?_
      rcases tsw7 y with hw | hw | hw | hw | hw | hw | hw | hw
      · subst hw
        refine g_tabIn (tgt := 84) C 0 (by rfl) dX3_about_40 (by decide) (by decide) rfl (by decide) ?_
        refine g_aload_n (pc' := 85) C dX3_about_84 rfl rfl ?_
        refine f_X3_103 (pc' := 88) C dX3_about_85 (by first | assumption | exact rfl | exact al13 rfl | exact Nat.le_of_ble_eq_true rfl) rfl ?_
        exact x_iret C hR dX3_about_88 (Nat.le_of_ble_eq_true rfl) (Nat.le_of_ble_eq_true rfl) ⟨by simp [cK15, cV15, hn, hcl, c1], by simp [cK15, cV15, hn, hcl, c1], rfl, rfl, by simp [cK15, cV15, hn, hcl, c1], rfl, rfl⟩
      · subst hw
        refine g_tabIn (tgt := 89) C 1 (by rfl) dX3_about_40 (by decide) (by decide) rfl (by decide) ?_
        refine g_aload_n (pc' := 90) C dX3_about_89 rfl rfl ?_
        refine f_X3_224 (pc' := 93) C dX3_about_90 (by first | assumption | exact rfl | exact al13 rfl | exact Nat.le_of_ble_eq_true rfl) rfl ?_
        exact x_iret C hR dX3_about_93 (Nat.le_of_ble_eq_true rfl) (Nat.le_of_ble_eq_true rfl) ⟨by simp [cK15, cV15, hn, hcl, c1], by simp [cK15, cV15, hn, hcl, c1], rfl, rfl, by simp [cK15, cV15, hn, hcl, c1], rfl, rfl⟩
      · subst hw
        refine g_tabIn (tgt := 94) C 2 (by rfl) dX3_about_40 (by decide) (by decide) rfl (by decide) ?_
        refine g_aload_n (pc' := 95) C dX3_about_94 rfl rfl ?_
        refine f_X3_227 (pc' := 98) C dX3_about_95 (by first | assumption | exact rfl | exact al13 rfl | exact Nat.le_of_ble_eq_true rfl) rfl ?_
        exact x_iret C hR dX3_about_98 (Nat.le_of_ble_eq_true rfl) (Nat.le_of_ble_eq_true rfl) ⟨by simp [cK15, cV15, hn, hcl, c1], by simp [cK15, cV15, hn, hcl, c1], rfl, rfl, by simp [cK15, cV15, hn, hcl, c1], rfl, rfl⟩
      · subst hw
        refine g_tabIn (tgt := 99) C 3 (by rfl) dX3_about_40 (by decide) (by decide) rfl (by decide) ?_
        refine g_aload_n (pc' := 100) C dX3_about_99 rfl rfl ?_
        refine f_X3_230 (pc' := 103) C dX3_about_100 (by first | assumption | exact rfl | exact al13 rfl | exact Nat.le_of_ble_eq_true rfl) rfl ?_
        exact x_iret C hR dX3_about_103 (Nat.le_of_ble_eq_true rfl) (Nat.le_of_ble_eq_true rfl) ⟨by simp [cK15, cV15, hn, hcl, c1], by simp [cK15, cV15, hn, hcl, c1], rfl, rfl, by simp [cK15, cV15, hn, hcl, c1], rfl, rfl⟩
      · subst hw
        refine g_tabIn (tgt := 104) C 4 (by rfl) dX3_about_40 (by decide) (by decide) rfl (by decide) ?_
        refine g_aload_n (pc' := 105) C dX3_about_104 rfl rfl ?_
        refine f_X3_233 (pc' := 108) C dX3_about_105 (by first | assumption | exact rfl | exact al13 rfl | exact Nat.le_of_ble_eq_true rfl) rfl ?_
        exact x_iret C hR dX3_about_108 (Nat.le_of_ble_eq_true rfl) (Nat.le_of_ble_eq_true rfl) ⟨by simp [cK15, cV15, hn, hcl, c1], by simp [cK15, cV15, hn, hcl, c1], rfl, rfl, by simp [cK15, cV15, hn, hcl, c1], rfl, rfl⟩
      · subst hw
        refine g_tabIn (tgt := 109) C 5 (by rfl) dX3_about_40 (by decide) (by decide) rfl (by decide) ?_
        refine g_aload_n (pc' := 110) C dX3_about_109 rfl rfl ?_
        refine f_X3_85 (pc' := 113) C dX3_about_110 (by first | assumption | exact rfl | exact al13 rfl | exact Nat.le_of_ble_eq_true rfl) rfl ?_
        exact x_iret C hR dX3_about_113 (Nat.le_of_ble_eq_true rfl) (Nat.le_of_ble_eq_true rfl) ⟨by simp [cK15, cV15, hn, hcl, c1], by simp [cK15, cV15, hn, hcl, c1], rfl, rfl, by simp [cK15, cV15, hn, hcl, c1], rfl, rfl⟩
      · subst hw
        refine g_tabIn (tgt := 114) C 6 (by rfl) dX3_about_40 (by decide) (by decide) rfl (by decide) ?_
        refine g_aload_n (pc' := 115) C dX3_about_114 rfl rfl ?_
        refine f_X3_116 (pc' := 118) C dX3_about_115 (by first | assumption | exact rfl | exact al13 rfl | exact Nat.le_of_ble_eq_true rfl) rfl ?_
        exact x_iret C hR dX3_about_118 (Nat.le_of_ble_eq_true rfl) (Nat.le_of_ble_eq_true rfl) ⟨by simp [cK15, cV15, hn, hcl, c1], by simp [cK15, cV15, hn, hcl, c1], rfl, rfl, by simp [cK15, cV15, hn, hcl, c1], rfl, rfl⟩
      · obtain ⟨h0, h1, h2, h3, h4, h5, h6⟩ := tsw7n hw
        refine g_tabOut (tgt := 119) C dX3_about_40 hw (by decide) ?_
        refine g_aload_n (pc' := 120) C dX3_about_119 rfl rfl ?_
        refine g_aload_n (pc' := 121) C dX3_about_120 rfl rfl ?_
        refine k_X3_236 (pc' := 124) C (m_X3_paidHoursOf X hm2) dX3_about_121 (by first | assumption | exact rfl | exact al13 rfl | exact Nat.le_of_ble_eq_true rfl) ⟨⟨Nat.le_of_ble_eq_true rfl, Nat.le_of_ble_eq_true rfl⟩, rfl, rfl⟩ (Nat.le_of_ble_eq_true rfl) ⟨Nat.zero_le _, Nat.zero_le _⟩ rfl ?_
        exact x_iret C hR dX3_about_124 (Nat.le_of_ble_eq_true rfl) (Nat.le_of_ble_eq_true rfl) ⟨by simp [cK15, cV15, hn, hcl, c1, h0, h1, h2, h3, h4, h5, h6], by simp [cK15, cV15, hn, hcl, c1, h0, h1, h2, h3, h4, h5, h6], rfl, rfl, by simp [cK15, cV15, hn, hcl, c1, h0, h1, h2, h3, h4, h5, h6], rfl, rfl⟩
    ·
      have c1 := b2_0.mp c1
      exact x_thr C hR hT xwA (List.mem_of_getElem? (i := 26) rfl) ⟨⟨Nat.le_of_ble_eq_true rfl, Nat.le_of_ble_eq_true rfl⟩, Nat.le_of_ble_eq_true rfl, Nat.le_of_ble_eq_true rfl⟩ ⟨Nat.le_of_ble_eq_true rfl, Nat.le_of_ble_eq_true rfl⟩ dX3_about_29 dX3_about_32 dX3_about_33 dX3_about_35 dX3_about_38 ⟨2, List.mem_of_getElem? (i := 1) rfl, by simp [cK15, hn, hcl, c1]⟩
  · have hn : oM x z.1 = true := oM_T hx
    refine k_X3_95 (pc' := 5) C (m_X3_matterAtN X hx) dX3_about_2 (by first | assumption | exact rfl | exact al13 rfl | exact Nat.le_of_ble_eq_true rfl) ⟨⟨Nat.le_of_ble_eq_true rfl, Nat.le_of_ble_eq_true rfl⟩, rfl, rfl⟩ (Nat.le_of_ble_eq_true rfl) ⟨Nat.zero_le _, Nat.zero_le _⟩ rfl ?_
    refine g_astore_nN (pc' := 6) C dX3_about_5 rfl rfl ?_
    refine g_aload_nN (pc' := 7) C dX3_about_6 rfl rfl ?_
    refine g_ifnonnullN (pc' := 10) C dX3_about_7 rfl ?_
    exact x_thr C hR hT xwI (List.mem_of_getElem? (i := 17) rfl) ⟨⟨Nat.le_of_ble_eq_true rfl, Nat.le_of_ble_eq_true rfl⟩, Nat.le_of_ble_eq_true rfl, Nat.le_of_ble_eq_true rfl⟩ ⟨Nat.le_of_ble_eq_true rfl, Nat.le_of_ble_eq_true rfl⟩ dX3_about_10 dX3_about_13 dX3_about_14 dX3_about_16 dX3_about_19 ⟨1, List.mem_of_getElem? (i := 0) rfl, by simp [cK15, hn]⟩
set_option maxRecDepth 20000 in
theorem m_X3_hearing {l : Launch} (hfl : l.stackTraces = false) {g : wG} {z : wZ} {I : wI} {P : wP} {O : wO} {x y : Int32} (X : XI z I P) (sz : Nat) : XT l yX3_hearing (.code yX3_hearing cX3_hearing 4 ((some .int))) { frames := 6, cells := 1, slots := 6, locals := 90 } g z sz [.ref (g.2.2 0 0), .int x, .int y] I P O 1 6 (pX (cK15 z.2 x y) g z (some (.int (cV16 I P x.toNatClampNeg y))) (I) (P) O) (xE [(1, tI), (2, tA)] (cK15 z.2 x y)) := by
  refine XT.of (own := RX3) rfl (by decide +kernel) hfl (Nat.le_of_ble_eq_true rfl) rfl (fun K C hl hg hR hT => ?_)
  subst hl
  subst hg
  refine g_aload_n (pc' := 1) C dX3_hearing_0 rfl rfl ?_
  refine g_iload_n (pc' := 2) C dX3_hearing_1 rfl rfl ?_
  rcases in_of x z.2 (by have := X.1; have := X.2.1; omega) with ⟨j, hj, hxj⟩ | hx
  · have hn : oM x z.2 = false := oM_F hj hxj (by have := X.1; have := X.2.1; omega)
    have hcl : x.toNatClampNeg = j := by rw [hxj]; exact nI_clamp (by have := X.1; have := X.2.1; omega)
    have hh : wAl z 3 j := hj
    have hmx2 := X.hm2 hh
    refine k_X3_149 (pc' := 5) C (m_X3_hearingAtS X hxj hj) dX3_hearing_2 (by first | assumption | exact rfl | exact al13 rfl | exact Nat.le_of_ble_eq_true rfl) ⟨⟨Nat.le_of_ble_eq_true rfl, Nat.le_of_ble_eq_true rfl⟩, rfl, rfl⟩ (Nat.le_of_ble_eq_true rfl) ⟨Nat.zero_le _, Nat.zero_le _⟩ rfl ?_
    refine g_astore_n (pc' := 6) C dX3_hearing_5 rfl rfl ?_
    refine g_aload_n (pc' := 7) C dX3_hearing_6 rfl rfl ?_
    refine g_ifnonnull (tgt := 20) C dX3_hearing_7 (by decide) ?_
    refine g_iload_n (pc' := 21) C dX3_hearing_20 rfl rfl ?_
    refine g_bipush (v := 8) (pc' := 23) C dX3_hearing_21 (by decide) rfl ?_
    refine k_X3_66 (pc' := 26) C (m_X3_isIn) dX3_hearing_23 ⟨⟨Nat.le_of_ble_eq_true rfl, Nat.le_of_ble_eq_true rfl⟩, rfl, rfl⟩ (Nat.le_of_ble_eq_true rfl) ⟨Nat.zero_le _, Nat.zero_le _⟩ rfl ?_
    refine g_if_ne (tgt := 39) (pc' := 29) C dX3_hearing_26 (by decide) rfl (fun c1 => ?_) (fun c1 => ?_)
    ·
      have c1 := b2_1.mp c1
      refine g_iload_n (pc' := 40) C dX3_hearing_39 rfl rfl ?_
      rcases tsw7 y with hw | hw | hw | hw | hw | hw | hw | hw
      · subst hw
        refine g_tabIn (tgt := 84) C 0 (by rfl) dX3_hearing_40 (by decide) (by decide) rfl (by decide) ?_
        refine g_aload_n (pc' := 85) C dX3_hearing_84 rfl rfl ?_
        refine f_X3_178 (pc' := 88) C dX3_hearing_85 (by first | assumption | exact rfl | exact al13 rfl | exact Nat.le_of_ble_eq_true rfl) rfl ?_
        exact x_iret C hR dX3_hearing_88 (Nat.le_of_ble_eq_true rfl) (Nat.le_of_ble_eq_true rfl) ⟨by simp [cK15, cV16, hn, hcl, c1], by simp [cK15, cV16, hn, hcl, c1], rfl, rfl, by simp [cK15, cV16, hn, hcl, c1], rfl, rfl⟩
      · subst hw
        refine g_tabIn (tgt := 89) C 1 (by rfl) dX3_hearing_40 (by decide) (by decide) rfl (by decide) ?_
        refine g_aload_n (pc' := 90) C dX3_hearing_89 rfl rfl ?_
        refine f_X3_161 (pc' := 93) C (X.hm hh) dX3_hearing_90 (by first | assumption | exact rfl | exact al13 rfl | exact Nat.le_of_ble_eq_true rfl) rfl ?_
        refine f_X3_92 (pc' := 96) C dX3_hearing_93 (by first | assumption | exact rfl | exact al13 rfl | exact Nat.le_of_ble_eq_true rfl) rfl ?_
        exact x_iret C hR dX3_hearing_96 (Nat.le_of_ble_eq_true rfl) (Nat.le_of_ble_eq_true rfl) ⟨by simp [cK15, cV16, hn, hcl, c1], by simp [cK15, cV16, hn, hcl, c1], rfl, rfl, by simp [cK15, cV16, hn, hcl, c1], rfl, rfl⟩
      · subst hw
        refine g_tabIn (tgt := 97) C 2 (by rfl) dX3_hearing_40 (by decide) (by decide) rfl (by decide) ?_
        refine g_aload_n (pc' := 98) C dX3_hearing_97 rfl rfl ?_
        refine f_X3_239 (pc' := 101) C dX3_hearing_98 (by first | assumption | exact rfl | exact al13 rfl | exact Nat.le_of_ble_eq_true rfl) rfl ?_
        exact x_iret C hR dX3_hearing_101 (Nat.le_of_ble_eq_true rfl) (Nat.le_of_ble_eq_true rfl) ⟨by simp [cK15, cV16, hn, hcl, c1], by simp [cK15, cV16, hn, hcl, c1], rfl, rfl, by simp [cK15, cV16, hn, hcl, c1], rfl, rfl⟩
      · subst hw
        refine g_tabIn (tgt := 102) C 3 (by rfl) dX3_hearing_40 (by decide) (by decide) rfl (by decide) ?_
        refine g_aload_n (pc' := 103) C dX3_hearing_102 rfl rfl ?_
        refine f_X3_242 (pc' := 106) C dX3_hearing_103 (by first | assumption | exact rfl | exact al13 rfl | exact Nat.le_of_ble_eq_true rfl) rfl ?_
        exact x_iret C hR dX3_hearing_106 (Nat.le_of_ble_eq_true rfl) (Nat.le_of_ble_eq_true rfl) ⟨by simp [cK15, cV16, hn, hcl, c1], by simp [cK15, cV16, hn, hcl, c1], rfl, rfl, by simp [cK15, cV16, hn, hcl, c1], rfl, rfl⟩
      · subst hw
        refine g_tabIn (tgt := 107) C 4 (by rfl) dX3_hearing_40 (by decide) (by decide) rfl (by decide) ?_
        refine g_aload_n (pc' := 108) C dX3_hearing_107 rfl rfl ?_
        refine f_X3_189 (pc' := 111) C dX3_hearing_108 (by first | assumption | exact rfl | exact al13 rfl | exact Nat.le_of_ble_eq_true rfl) rfl ?_
        exact x_iret C hR dX3_hearing_111 (Nat.le_of_ble_eq_true rfl) (Nat.le_of_ble_eq_true rfl) ⟨by simp [cK15, cV16, hn, hcl, c1], by simp [cK15, cV16, hn, hcl, c1], rfl, rfl, by simp [cK15, cV16, hn, hcl, c1], rfl, rfl⟩
      · subst hw
        refine g_tabIn (tgt := 112) C 5 (by rfl) dX3_hearing_40 (by decide) (by decide) rfl (by decide) ?_
        refine g_aload_n (pc' := 113) C dX3_hearing_112 rfl rfl ?_
        refine f_X3_167 (pc' := 116) C dX3_hearing_113 (by first | assumption | exact rfl | exact al13 rfl | exact Nat.le_of_ble_eq_true rfl) rfl ?_
        exact x_iret C hR dX3_hearing_116 (Nat.le_of_ble_eq_true rfl) (Nat.le_of_ble_eq_true rfl) ⟨by simp [cK15, cV16, hn, hcl, c1], by simp [cK15, cV16, hn, hcl, c1], rfl, rfl, by simp [cK15, cV16, hn, hcl, c1], rfl, rfl⟩
      · subst hw
        refine g_tabIn (tgt := 117) C 6 (by rfl) dX3_hearing_40 (by decide) (by decide) rfl (by decide) ?_
        refine g_aload_n (pc' := 118) C dX3_hearing_117 rfl rfl ?_
        refine k_X3_245 (pc' := 121) C (m_X0_notices hh) dX3_hearing_118 (by first | assumption | exact rfl | exact al13 rfl | exact Nat.le_of_ble_eq_true rfl) ⟨⟨Nat.le_of_ble_eq_true rfl, Nat.le_of_ble_eq_true rfl⟩, rfl, rfl⟩ (Nat.le_of_ble_eq_true rfl) ⟨Nat.zero_le _, Nat.zero_le _⟩ rfl ?_
        exact x_iret C hR dX3_hearing_121 (Nat.le_of_ble_eq_true rfl) (Nat.le_of_ble_eq_true rfl) ⟨by simp [cK15, cV16, hn, hcl, c1], by simp [cK15, cV16, hn, hcl, c1], rfl, rfl, by simp [cK15, cV16, hn, hcl, c1], rfl, rfl⟩
      · obtain ⟨h0, h1, h2, h3, h4, h5, h6⟩ := tsw7n hw
        refine g_tabOut (tgt := 122) C dX3_hearing_40 hw (by decide) ?_
        refine g_aload_n (pc' := 123) C dX3_hearing_122 rfl rfl ?_
        refine k_X3_248 (pc' := 126) C (m_X0_charged hh) dX3_hearing_123 (by first | assumption | exact rfl | exact al13 rfl | exact Nat.le_of_ble_eq_true rfl) ⟨⟨Nat.le_of_ble_eq_true rfl, Nat.le_of_ble_eq_true rfl⟩, rfl, rfl⟩ (Nat.le_of_ble_eq_true rfl) ⟨Nat.zero_le _, Nat.zero_le _⟩ rfl ?_
        exact x_iret C hR dX3_hearing_126 (Nat.le_of_ble_eq_true rfl) (Nat.le_of_ble_eq_true rfl) ⟨by simp [cK15, cV16, hn, hcl, c1, h0, h1, h2, h3, h4, h5, h6], by simp [cK15, cV16, hn, hcl, c1, h0, h1, h2, h3, h4, h5, h6], rfl, rfl, by simp [cK15, cV16, hn, hcl, c1, h0, h1, h2, h3, h4, h5, h6], rfl, rfl⟩
    ·
      have c1 := b2_0.mp c1
      exact x_thr C hR hT xwA (List.mem_of_getElem? (i := 26) rfl) ⟨⟨Nat.le_of_ble_eq_true rfl, Nat.le_of_ble_eq_true rfl⟩, Nat.le_of_ble_eq_true rfl, Nat.le_of_ble_eq_true rfl⟩ ⟨Nat.le_of_ble_eq_true rfl, Nat.le_of_ble_eq_true rfl⟩ dX3_hearing_29 dX3_hearing_32 dX3_hearing_33 dX3_hearing_35 dX3_hearing_38 ⟨2, List.mem_of_getElem? (i := 1) rfl, by simp [cK15, hn, hcl, c1]⟩
  · have hn : oM x z.2 = true := oM_T hx
    refine k_X3_149 (pc' := 5) C (m_X3_hearingAtN X hx) dX3_hearing_2 (by first | assumption | exact rfl | exact al13 rfl | exact Nat.le_of_ble_eq_true rfl) ⟨⟨Nat.le_of_ble_eq_true rfl, Nat.le_of_ble_eq_true rfl⟩, rfl, rfl⟩ (Nat.le_of_ble_eq_true rfl) ⟨Nat.zero_le _, Nat.zero_le _⟩ rfl ?_
    refine g_astore_nN (pc' := 6) C dX3_hearing_5 rfl rfl ?_
    refine g_aload_nN (pc' := 7) C dX3_hearing_6 rfl rfl ?_
    refine g_ifnonnullN (pc' := 10) C dX3_hearing_7 rfl ?_
    exact x_thr C hR hT xwI (List.mem_of_getElem? (i := 15) rfl) ⟨⟨Nat.le_of_ble_eq_true rfl, Nat.le_of_ble_eq_true rfl⟩, Nat.le_of_ble_eq_true rfl, Nat.le_of_ble_eq_true rfl⟩ ⟨Nat.le_of_ble_eq_true rfl, Nat.le_of_ble_eq_true rfl⟩ dX3_hearing_10 dX3_hearing_13 dX3_hearing_14 dX3_hearing_16 dX3_hearing_19 ⟨1, List.mem_of_getElem? (i := 0) rfl, by simp [cK15, hn]⟩
set_option maxRecDepth 20000 in
theorem m_X3_paidBy {l : Launch} (hfl : l.stackTraces = false) {g : wG} {z : wZ} {I : wI} {P : wP} {O : wO} {x y : Int32} (X : XI z I P) (sz : Nat) : XT l yX3_paidBy (.code yX3_paidBy cX3_paidBy 5 ((some .int))) { frames := 6, cells := 1, slots := 6, locals := 90 } g z sz [.ref (g.2.2 0 0), .int x, .int y] I P O 1 6 (pX (cK17 x y) g z (some (.int (cV17 I P x y))) (I) (P) O) (xE [(1, tI)] (cK17 x y)) := by
  refine XT.of (own := RX3) rfl (by decide +kernel) hfl (Nat.le_of_ble_eq_true rfl) rfl (fun K C hl hg hR hT => ?_)
  subst hl
  subst hg
  refine g_aload_n (pc' := 1) C dX3_paidBy_0 rfl rfl ?_
  refine g_iload_n (pc' := 2) C dX3_paidBy_1 rfl rfl ?_
  rcases in_of x 4 (by decide) with ⟨j, hj, hxj⟩ | hx
  · have hn : oM x 4 = false := oM_F hj hxj (by decide)
    have hcl : x.toNatClampNeg = j := by rw [hxj]; exact nI_clamp (by have := X.1; have := X.2.1; omega)
    have hi : wAl z 1 j := hj
    refine k_X3_42 (pc' := 5) C (m_X3_interpreterAtS hxj hj (X.2.2.2.2.2.2.1 j hj)) dX3_paidBy_2 (by first | assumption | exact rfl | exact al13 rfl | exact Nat.le_of_ble_eq_true rfl) ⟨⟨Nat.le_of_ble_eq_true rfl, Nat.le_of_ble_eq_true rfl⟩, rfl, rfl⟩ (Nat.le_of_ble_eq_true rfl) ⟨Nat.zero_le _, Nat.zero_le _⟩ rfl ?_
    refine g_astore_n (pc' := 6) C dX3_paidBy_5 rfl rfl ?_
    refine g_aload_n (pc' := 7) C dX3_paidBy_6 rfl rfl ?_
    refine g_ifnull (pc' := 10) C dX3_paidBy_7 rfl ?_
    refine g_iload_n (pc' := 11) C dX3_paidBy_10 rfl rfl ?_
    refine k_X3_213 (pc' := 14) C (m_X3_isCalendarHour) dX3_paidBy_11 ⟨⟨Nat.le_of_ble_eq_true rfl, Nat.le_of_ble_eq_true rfl⟩, rfl, rfl⟩ (Nat.le_of_ble_eq_true rfl) ⟨Nat.zero_le _, Nat.zero_le _⟩ rfl ?_
    refine g_if_ne (tgt := 27) (pc' := 17) C dX3_paidBy_14 (by decide) rfl (fun c1 => ?_) (fun c1 => ?_)
    ·
      have c1 := b2_1.mp c1
      refine g_aload_n (pc' := 28) C dX3_paidBy_27 rfl rfl ?_
      refine g_iload_n (pc' := 29) C dX3_paidBy_28 rfl rfl ?_
      refine g_aload_n (pc' := 30) C dX3_paidBy_29 rfl rfl ?_
      refine f_X3_38 (pc' := 33) C dX3_paidBy_30 (by first | assumption | exact rfl | exact al13 rfl | exact Nat.le_of_ble_eq_true rfl) rfl ?_
      have hM : RT (Kl K) yX1_payer cX1_payer 4 (some (.object "Hearingpay$Matter")) { frames := 1, cells := 0, slots := 0, locals := 20 } (Kg K) z [.ref ((Kg K).2.2 1 j), .int y, .int (I 0 0 6)] I P O (dp (some (va_rf ((py I P j y (I 0 0 6)).map ((Kg K).2.2 2)))) I P) := m_X1_payer hi
      rcases hpy : py I P j y (I 0 0 6) with _ | q
      · rw [hpy] at hM
        refine k_X3_253 (pc' := 36) C hM dX3_paidBy_33 (by first | assumption | exact rfl | exact al13 rfl | exact Nat.le_of_ble_eq_true rfl) ⟨⟨Nat.le_of_ble_eq_true rfl, Nat.le_of_ble_eq_true rfl⟩, rfl, rfl⟩ (Nat.le_of_ble_eq_true rfl) ⟨Nat.zero_le _, Nat.zero_le _⟩ rfl ?_
        refine g_astoreN (pc' := 38) C dX3_paidBy_36 rfl rfl ?_
        refine g_aloadN (pc' := 40) C dX3_paidBy_38 rfl rfl ?_
        refine g_ifnonnullN (pc' := 43) C dX3_paidBy_40 rfl ?_
        refine g_iconst (v := (-1)) (pc' := 44) C dX3_paidBy_43 (by decide) rfl ?_
        refine g_goto (tgt := 52) C dX3_paidBy_44 (by decide) ?_
        exact x_iret C hR dX3_paidBy_52 (Nat.le_of_ble_eq_true rfl) (Nat.le_of_ble_eq_true rfl) ⟨by simp [cK17, cV17, ich, hn, hcl, c1, hpy], by simp [cK17, cV17, ich, hn, hcl, c1, hpy], rfl, rfl, by simp [cK17, cV17, ich, hn, hcl, c1, hpy], rfl, rfl⟩
      · rw [hpy] at hM
        have hq2 : wAl z 2 q := X.h9 hi (rg_lt y) (by unfold py at hpy; split at hpy; exact hpy; cases hpy)
        refine k_X3_253 (pc' := 36) C hM dX3_paidBy_33 (by first | assumption | exact rfl | exact al13 rfl | exact Nat.le_of_ble_eq_true rfl) ⟨⟨Nat.le_of_ble_eq_true rfl, Nat.le_of_ble_eq_true rfl⟩, rfl, rfl⟩ (Nat.le_of_ble_eq_true rfl) ⟨Nat.zero_le _, Nat.zero_le _⟩ rfl ?_
        refine g_astore (pc' := 38) C dX3_paidBy_36 rfl rfl ?_
        refine g_aload (pc' := 40) C dX3_paidBy_38 rfl rfl ?_
        refine g_ifnonnull (tgt := 47) C dX3_paidBy_40 (by decide) ?_
        refine g_aload (pc' := 49) C dX3_paidBy_47 rfl rfl ?_
        refine f_X3_92 (pc' := 52) C dX3_paidBy_49 (by first | assumption | exact rfl | exact al13 rfl | exact Nat.le_of_ble_eq_true rfl) rfl ?_
        exact x_iret C hR dX3_paidBy_52 (Nat.le_of_ble_eq_true rfl) (Nat.le_of_ble_eq_true rfl) ⟨by simp [cK17, cV17, ich, hn, hcl, c1, hpy], by simp [cK17, cV17, ich, hn, hcl, c1, hpy], rfl, rfl, by simp [cK17, cV17, ich, hn, hcl, c1, hpy], rfl, rfl⟩
    ·
      have c1 := b2_0.mp c1
      exact x_thr C hR hT xwI (List.mem_of_getElem? (i := 27) rfl) ⟨⟨Nat.le_of_ble_eq_true rfl, Nat.le_of_ble_eq_true rfl⟩, Nat.le_of_ble_eq_true rfl, Nat.le_of_ble_eq_true rfl⟩ ⟨Nat.le_of_ble_eq_true rfl, Nat.le_of_ble_eq_true rfl⟩ dX3_paidBy_17 dX3_paidBy_20 dX3_paidBy_21 dX3_paidBy_23 dX3_paidBy_26 ⟨1, List.mem_of_getElem? (i := 0) rfl, by simp [cK17, ich, hn, hcl, c1]⟩
  · have hn : oM x 4 = true := oM_T hx
    have hx : x < 0 ∨ 4 ≤ x := hx
    refine k_X3_42 (pc' := 5) C (m_X3_interpreterAtN hx) dX3_paidBy_2 (by first | assumption | exact rfl | exact al13 rfl | exact Nat.le_of_ble_eq_true rfl) ⟨⟨Nat.le_of_ble_eq_true rfl, Nat.le_of_ble_eq_true rfl⟩, rfl, rfl⟩ (Nat.le_of_ble_eq_true rfl) ⟨Nat.zero_le _, Nat.zero_le _⟩ rfl ?_
    refine g_astore_nN (pc' := 6) C dX3_paidBy_5 rfl rfl ?_
    refine g_aload_nN (pc' := 7) C dX3_paidBy_6 rfl rfl ?_
    refine g_ifnullN (tgt := 17) C dX3_paidBy_7 (by decide) ?_
    exact x_thr C hR hT xwI (List.mem_of_getElem? (i := 27) rfl) ⟨⟨Nat.le_of_ble_eq_true rfl, Nat.le_of_ble_eq_true rfl⟩, Nat.le_of_ble_eq_true rfl, Nat.le_of_ble_eq_true rfl⟩ ⟨Nat.le_of_ble_eq_true rfl, Nat.le_of_ble_eq_true rfl⟩ dX3_paidBy_17 dX3_paidBy_20 dX3_paidBy_21 dX3_paidBy_23 dX3_paidBy_26 ⟨1, List.mem_of_getElem? (i := 0) rfl, by simp [cK17, ich, hn]⟩
end WCalls
