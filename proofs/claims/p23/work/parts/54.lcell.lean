section WLcell
theorem SX.up {K : wK} {b L : Nat} {xs : Nat → Int32} (h : SX K b L xs) (g' : wG) : SX (Kw K g') b L xs := h
theorem XK.up {K : wK} (h : XK K) (g' : wG) : XK (Kw K g') := h
section
variable {K : wK} {cc : ByteArray} {own : String} {nL : Nat} {ret : Option FieldType} {rm : Room} {z : wZ} {I : wI} {P : wP} {O : wO} {c n pc pc' : Nat} {L : List (Nat × Value)} {S : List Value}
theorem x_callP (C : Cx K cc own nL ret rm z) (hXK : XK K) {index mxl mc ms : Nat} {y : MethodName} {bc : ByteArray} {rt : Option FieldType} {rmy : Room} {As S0 : List Value} {post : Nat → wPost} (hw : wS own index y bc mxl rt) (hM : ∀ sz, XT (Kl K) y (.code y bc mxl rt) rmy (Kg K) z sz As I P O mc ms (post sz) (fun _ => False)) (d : decode cc pc = .ok (.invokestatic index, 3))
    (hd : y.cls ≠ "java/lang/invoke/MethodHandle" ∧ y.cls ≠ "java/lang/invoke/VarHandle" ∧ (parseMethodDescriptor y.desc).map (fun d => d.parameters.length) = some As.length) (hroom : (rmy.frames + 1 ≤ rm.frames ∧ 8 + (mxl + 11) + rmy.locals ≤ rm.locals) ∧ rmy.cells = mc ∧ rmy.slots = ms) (hS0 : S0 = As.reverse ++ S) (hcat : (S.map fun v => v.category).sum ≤ 8) (hf : c + mc ≤ rm.cells ∧ n + ms ≤ rm.slots) (hp : pc + 3 = pc') (kk : ∀ sz v g' z' I' P' O', (∀ q, sz ≤ q → Ka K q) → post sz v g' z' I' P' O' → G (Kw K g') z' I' P' O' (c + mc) (n + ms) pc' L (v.toList ++ S)) : G K z I P O c n pc L S0 := by
  subst hp
  subst hS0
  obtain ⟨p, l, e, R, s, m, args, below, meth, cd, Q, g, A⟩ := K
  obtain ⟨hx, hb, hr, hml, hown, hts, hlk, hK, rfl, hA⟩ := C
  obtain ⟨hX, hA2⟩ := hXK
  intro H locs ls hH hS hl hcc
  refine x_run (vx_runS (As := As) (rest := S) (nL := nL) ⟨hx, hb, hml, hown, hts⟩ (hM H.size) (va_cwS As.length hts (wS_good hw) rfl hroom.2.1 hroom.2.2 hd hroom.1) ⟨xBlind, fun U hU hW => ⟨rfl, by rw [hU], by rw [hU]; exact hH, va_K.moved hW.alike hK, by rw [hU]; exact hX.at hS hW (wB_in hA hA2 hS)⟩⟩ rfl rfl (hl.1.trans hml) rfl (lv_room hcat) d hf) hS (wB_in hA hA2 hS) hl hcc (fun E h => h.elim) (fun v g' z' I' P' O' hp => kk H.size v g' z' I' P' O' (fun q hq => hA2 q (Nat.le_trans hS.1 hq)) hp)
def CPre (g : wG) (z : wZ) (I : wI) (P : wP) (O : wO) (b Ln : Nat) (xs : Nat → Int32) (U : State) : Prop := (wHd g z I P O U.heap ∧ va_K g.1 vwCl (wTy g) U) ∧ va_X b Ln xs U U.heap ∧ b < U.heap.size ∧ ¬ wA g z b
abbrev cPost (I : wI) (P : wP) : Option Value → wI → wP → Prop := fun r I' P' => (∃ w, r = some (.int w)) ∧ I' = I ∧ P' = P
def CT (l : Launch) (g : wG) (z : wZ) (I : wI) (P : wP) (O : wO) (b Ln : Nat) (xs : Nat → Int32) (v : Int32) : Prop := Met l yL_cell (.code yL_cell cL_cell 2 (some .int) :: wAll) { frames := 0, cells := 0, slots := 0, locals := 0 } (va_Pc [.ref b, .int v] (CPre g z I P O b Ln xs)) (rQ g z O (cPost I P)) 0 0 (wA g z)
theorem CT.of {l : Launch} {g : wG} {b Ln : Nat} {xs : Nat → Int32} {v : Int32} (walk : ∀ K : wK, Cx K cL_cell RL 2 (some .int) { frames := 0, cells := 0, slots := 0, locals := 0 } z → Kl K = l → Kg K = g → Rx K z O (cPost I P) → SX K b Ln xs → G K z I P O 0 0 0 [(0, .ref b), (1, .int v)] []) : CT l g z I P O b Ln xs v := by
  refine Met.ofW (cc := cL_cell) (maxL := 2) (ret := some .int) (by decide +kernel) rfl ?_
  intro p e s m av below meth c s₁ B hml hv
  obtain ⟨rfl, ⟨hH, hK⟩, hXs, hbl, hbA⟩ := hv
  rw [lg_entry_eq]
  have hts := atoms_spec (ws := .code yL_cell cL_cell 2 (some .int) :: wAll) B.pre
  have hl := lv_entry [.ref b, .int v] (n := 2) (Nat.le_of_ble_eq_true rfl)
  refine walk (p, l, e, _, s, m, [Value.ref b, Value.int v].toArray, below, meth, c, MQ below (rQ g z O (cPost I P)) [Value.ref b, Value.int v].toArray s 0 0 (wA g z), g, wA g z) ⟨B.exec, B.bytes, B.returns, hml, ?_, fun w hw => hts w (List.mem_cons_of_mem _ hw), B.notSynchronized, hK, rfl, fun k i h => ⟨k, i, h, rfl⟩⟩ rfl rfl ⟨rfl, rfl⟩ ⟨hXs, hbl, hbA⟩ s.heap [] _ hH va_S.rf ?_ ?_
  · exact findClass_of_methodNamed B.named
  · rw [hml]; exact hl
  · intro q hq; simp only [List.mem_cons, List.not_mem_nil, or_false] at hq; rcases hq with rfl | rfl <;> rfl
set_option maxRecDepth 20000 in
theorem w_cell {l : Launch} {g : wG} {b Ln k : Nat} {xs : Nat → Int32} (hLn : Ln < 5000) (hk : k < 100000) : CT l g z I P O b Ln xs (nI k) := by
  refine CT.of (fun K C hl hg hR hX => ?_)
  refine g_iload_n (pc' := 1) C dL_cell_0 rfl rfl ?_
  refine g_aload_n (pc' := 2) C dL_cell_1 rfl rfl ?_
  refine g_slen (pc' := 3) C hX dL_cell_2 rfl ?_
  refine g_icmp_geN (tgt := 12) (pc' := 6) C (by omega) (by omega) dL_cell_3 (by decide) rfl (fun _ => ?_) (fun hlt => ?_)
  · refine g_ldc (v := 51239) (pc' := 14) C kL_7 dL_cell_12 rfl ?_
    refine g_iload_n (pc' := 15) C dL_cell_14 rfl rfl ?_
    refine g_bipush (v := nI 99) (pc' := 17) C dL_cell_15 (by decide) rfl ?_
    refine g_iadd (pc' := 18) C dL_cell_17 rfl ?_
    refine g_imul (pc' := 19) C dL_cell_18 rfl ?_
    refine g_ldc (v := 2825535) (pc' := 21) C kL_8 dL_cell_19 rfl ?_
    refine g_iadd (pc' := 22) C dL_cell_21 rfl ?_
    exact g_iret C hR dL_cell_22 ⟨⟨_, rfl⟩, rfl, rfl⟩
  · refine g_aload_n (pc' := 7) C dL_cell_6 rfl rfl ?_
    refine g_iload_n (pc' := 8) C dL_cell_7 rfl rfl ?_
    refine g_sld (pc' := 9) C hX k rfl hlt hLn dL_cell_8 rfl ?_
    refine g_goto (tgt := 22) C dL_cell_9 (by decide) ?_
    exact g_iret C hR dL_cell_22 ⟨⟨_, rfl⟩, rfl, rfl⟩
theorem cBlind {g : wG} {b Ln : Nat} {xs : Nat → Int32} {args : List Value} : FrameBlind (va_Pc args (CPre g z I P O b Ln xs)) := fun a U f mk q => by
  obtain ⟨q0, ⟨q1, q2⟩, q3, q4, q5⟩ := q
  exact ⟨q0, ⟨q1, va_K.moved (u := U) (U := U.calling f mk a) (Vm.Alike.refl U.vm) q2⟩, va_X.moved (u := U) (U := U.calling f mk a) (Vm.Alike.refl U.vm) q3, q4, q5⟩
theorem g_callC (C : Cx K cc RL nL ret rm z) {b Ln : Nat} {xs : Nat → Int32} (hX : SX K b Ln xs) {v : Int32} (hM : CT (Kl K) (Kg K) z I P O b Ln xs v) (d : decode cc pc = .ok (.invokestatic 115, 3)) (hroom : 0 + 1 ≤ rm.frames ∧ 8 + (2 + 11) + 0 ≤ rm.locals) (hcat : (S.map fun v => v.category).sum ≤ 8) (hf : c ≤ rm.cells ∧ n ≤ rm.slots) (hp : pc + 3 = pc') (kk : ∀ w : Int32, G K z I P O c n pc' L (.int w :: S)) : G K z I P O c n pc L (.int v :: .ref b :: S) := by
  subst hp
  obtain ⟨p, l, e, R, s, m, args, below, meth, cd, Q, g, A⟩ := K
  obtain ⟨hx, hb, hr, hml, hown, hts, hlk, hK, rfl, hA⟩ := C
  obtain ⟨h1, h2, h3⟩ := hX
  intro H locs ls hH hS hl hcc
  refine g_run (va_runS (As := [.ref b, .int v]) (rest := S) (nL := nL) ⟨hx, hb, hml, hown, hts⟩ hM (va_cwS 2 hts (wS_good cs_L_115) rfl rfl rfl ⟨by decide +kernel, by decide +kernel, by decide +kernel⟩ hroom) ⟨cBlind, fun U hU hW => ⟨rfl, ⟨by rw [hU]; exact hH, va_K.moved hW.alike hK⟩, by rw [hU]; exact va_X.moved hW.alike (h1.kept (hS.2.1 b h2 h3)), by rw [hU]; exact Nat.lt_of_lt_of_le h2 hS.1, fun q => h3 (wA_in hA b q)⟩⟩ rfl rfl (hl.1.trans hml) rfl (lv_room hcat) d ⟨hf.1, hf.2⟩) hS (wA_in hA) hl hcc (fun r I' P' q => ?_)
  obtain ⟨⟨w, rfl⟩, rfl, rfl⟩ := q
  exact kk w
end
variable {z : wZ} {nw : Nat} {I I' Ia : wI} {P P' : wP} {J J' J3 : wI} {L L' : wR}
theorem fin_file {x0 x1 x2 g : Nat} {b : Int32} (S : Stt z nw I P J) (hO : Oth I Ia) (hM : z.1 < 8) (h0 : x0 < 4) (h1 : x1 < 6) (h2 : x2 < 6) (h12 : x1 ≠ x2) (hg : g ≤ 4) (hb : b = if J 13 4 x1 = 0 then -50 else 0) (Y : YS (fun _ => False) (z.1 + 1, z.2) nw (upI (upI (upI (upI (upI (upI (upI (th J 0) 13 7 z.1 (nI x0)) 13 8 z.1 (nI x1)) 13 9 z.1 (nI x2)) 13 10 z.1 (nI g - nI 1)) 13 11 z.1 b) 13 12 z.1 (nI (nw + 100))) 12 0 5 (nI (z.1 + 1))) (Ia 13)) : cK2 Ia (nI x0) (nI x1) (nI x2) (nI g - nI 1) = 0 ∧ ∃ J', Stt (z.1 + 1, z.2) nw (cO2 Ia z.1 (nI x0) (nI x1) (nI x2) (nI g - nI 1)) (upP P 6 0 z.1 (some z.1)) J' := by
  have Sa := S.s.oth hO
  have hd : dom4 (nI g - nI 1) := who_5 (by omega)
  have hK : mK2 z.1 (nI x0) (nI x1) (nI x2) (nI g - nI 1) = 0 := by
    unfold mK2
    rw [if_pos ⟨inR_nI (lo := 0) (hi := 3) (by omega) (by omega) (by omega), inR_nI (lo := 0) (hi := 5) (by omega) (by omega) (by omega), inR_nI (lo := 0) (hi := 5) (by omega) (by omega) (by omega), dom4_in hd⟩, if_neg (fun q => h12 ((nI_eq (by omega) (by omega)).mp q)), if_neg (by omega)]
  have hK2 := (cK2_eq Sa).trans hK
  refine ⟨hK2, ?_⟩
  obtain ⟨-, h3, -⟩ := s_file Sa (x := nI x0) (y := nI x1) (w := nI x2) (v := nI g - nI 1)
  have h4 := (h3 hK2).2
  unfold mO2 at h4
  rw [if_pos hK, nI_clamp (n := x1) (by omega), ← hb, S.y.jn, show nI nw + 100 = nI (nw + 100) from nI_add nw 100] at h4
  refine ⟨_, h4, ?_, rf_O2 S.r⟩
  rw [show cO2 Ia z.1 (nI x0) (nI x1) (nI x2) (nI g - nI 1) 13 = Ia 13 from og_O2 13 (by decide)]
  exact Y
theorem fin_it {k y p : Nat} (S : Stt z nw I P J) (hO : Oth I Ia) (hk : k < 4) (hy : y ≤ 15) (hp : 1 ≤ p) (hp9 : p ≤ 99) (Y : YS (fun _ => False) z nw (upI (upI J 13 2 k (nI y)) 13 3 k (nI p)) (Ia 13)) : cK0 (nI k) (nI y) (nI p) = 0 ∧ Ia 1 (nI k).toNatClampNeg 1 = J 13 3 k ∧ ∃ J', Stt z nw (cO0 Ia (nI k) (nI y) (nI p)) P J' := by
  have Sa := S.s.oth hO
  have hc : (nI k).toNatClampNeg = k := nI_clamp (by omega)
  have hK : mK0 (nI k) (nI y) (nI p) = 0 := by
    unfold mK0
    rw [if_pos (show inR (nI k) 0 3 = true from inR_nI (lo := 0) (hi := 3) (by omega) (by omega) (by omega)), if_pos (show inR (nI y) 0 15 = true ∧ inR (nI p) 1 99 = true from ⟨inR_nI (lo := 0) (hi := 15) (by omega) (by omega) (by omega), inR_nI (lo := 1) (hi := 99) (by omega) (by omega) (by omega)⟩)]
  obtain ⟨h1, h2, -⟩ := s_interpreter Sa (x := nI k) (y := nI y) (w := nI p)
  unfold mO0 at h1 h2
  rw [if_pos hK, hc] at h1 h2
  have hk0 : cK0 (nI k) (nI y) (nI p) = 0 := by
    rw [← h1]
    show upI (upI (th J 0) 13 2 k (nI y)) 13 3 k (nI p) 12 0 0 = 0
    rw [upI_at, if_neg (by omega), upI_at, if_neg (by omega)]
    exact thv J 0
  have h3 := h2 hk0
  refine ⟨hk0, ?_, _, h3.2, ?_, S.r⟩
  · rw [hc]
    have := h3.1
    rw [th_13] at this
    exact this
  · rw [show cO0 Ia (nI k) (nI y) (nI p) 13 = Ia 13 from og_O0 13 (by decide)]
    have e : upI (upI (th J 0) 13 2 k (nI y)) 13 3 k (nI p) = th (upI (upI J 13 2 k (nI y)) 13 3 k (nI p)) 0 := by
      unfold th
      rw [upI_swap J (by omega), upI_swap _ (by omega)]
    rw [e]
    exact Y.thr 0
theorem fin_it2 {k y p : Nat} (S : Stt z nw I P J) (hO : Oth I Ia) (hk : k < 4) (hy : y ≤ 15) (hp : 1 ≤ p) (hp9 : p ≤ 99) (Y : YS (fun _ => False) z nw (upI (upI J 13 2 k (nI y)) 13 3 k (nI p)) (Ia 13)) : cK0 (nI k) (nI y) (nI p) = 0 ∧ Ia 1 (nI k).toNatClampNeg 1 = J 13 3 k ∧ ∃ J', Stt z nw (cO0 Ia (nI k) (nI y) (nI p)) P J' ∧ ∀ j, j < 4 → j ≠ k → J' 13 3 j = J 13 3 j := by
  obtain ⟨h1, h2, J', S'⟩ := fin_it S hO hk hy hp hp9 Y
  refine ⟨h1, h2, J', S', fun j q hj => ?_⟩
  · have e1 := (S'.y.w.1 j q).2.1
    have e2 := (Y.w.1 j q).2.1
    rw [show cO0 Ia (nI k) (nI y) (nI p) 13 = Ia 13 from og_O0 13 (by decide)] at e1
    rw [← e1, e2, upI_at, if_neg (fun a => hj a.2.2), upI_at, if_neg (by omega)]
theorem fin_wv {p v : Nat} (S : Stt z nw I P J) (hO : Oth I Ia) (hp : p < 6) (hv : v < 2) (Y : YS (fun _ => False) z nw (upI J 13 4 p (nI v)) (Ia 13)) : cK1 (nI p) = 0 ∧ Ia 5 0 (nI p).toNatClampNeg = J 13 4 p ∧ (∀ j, j < 6 → Ia 5 0 j = 0 ∨ Ia 5 0 j = 1) ∧ ∃ J', Stt z nw (upI Ia 5 0 (nI p).toNatClampNeg (nI v)) P J' := by
  have Sa := S.s.oth hO
  have hc : (nI p).toNatClampNeg = p := nI_clamp (by omega)
  have h01 : nI v = 0 ∨ nI v = 1 := by rcases (show v = 0 ∨ v = 1 by omega) with rfl | rfl <;> decide
  have hK : mK1 (nI p) = 0 := by unfold mK1; rw [if_pos (show inR (nI p) 0 5 = true from inR_nI (lo := 0) (hi := 5) (by omega) (by omega) (by omega))]
  obtain ⟨h1, h2, -⟩ := s_waive Sa (x := nI p) h01
  unfold mO1 at h1 h2
  rw [if_pos hK, hc] at h1 h2
  have hk0 : cK1 (nI p) = 0 := by
    rw [← h1]
    show upI (th J 0) 13 4 p (nI v) 12 0 0 = 0
    rw [upI_at, if_neg (by omega)]
    exact thv J 0
  have h3 := h2 hk0
  refine ⟨hk0, ?_, fun j hj => ?_, ?_⟩
  · rw [hc]
    have := h3.1
    rw [th_13] at this
    exact this
  · have := Sa.A.w j hj
    rw [this.1]; exact this.2
  · rw [hc]
    refine ⟨_, h3.2, ?_, S.r⟩
    rw [show upI Ia 5 0 p (nI v) 13 = Ia 13 from upI_kind (by decide)]
    have e : upI (th J 0) 13 4 p (nI v) = th (upI J 13 4 p (nI v)) 0 := by unfold th; rw [upI_swap J (by omega)]
    rw [e]
    exact Y.thr 0
theorem fin_pass {h : Nat} (S : Stt z nw I P J) (hO : Oth I Ia) (h1 : 1 ≤ h) (h50 : h ≤ 50) (hn : nw + h ≤ 1000) (Y : YS (fun _ => False) z (nw + h) (mPL z.1 z.2 h (th J 0, 0)).1 (Ia 13)) : cK12 (Ia 0 0 6) (nI h) = 0 ∧ (cPL P z (nI h).toNatClampNeg (Ia, 0)).2 = (mPL z.1 z.2 h (th J 0, 0)).2 ∧ Stt z (nw + h) (cPL P z (nI h).toNatClampNeg (Ia, 0)).1 P (mPL z.1 z.2 h (th J 0, 0)).1 := by
  have Sa := (S.s.oth hO).thr 0
  have hc : (nI h).toNatClampNeg = h := nI_clamp (by omega)
  obtain ⟨q1, q2⟩ := pass_loop h nw (Ia, 0) (th J 0, 0) Sa rfl hn
  rw [hc]
  refine ⟨?_, q2, q1, ?_, S.r⟩
  · have h50' : nI h ≤ 50 := nI_le (b := 50) h50 (by omega)
    unfold cK12
    rw [Sa.A.n.1, if_neg, if_neg]
    · intro q
      refine q ?_
      rw [nI_add]
      exact nI_le (b := 1000) hn (by omega)
    · rintro (q | q)
      · exact absurd q (nI_nlt (b := 1) h1 (by omega))
      · exact q h50'
  · rw [show (cPL P z h (Ia, 0)).1 13 = Ia 13 from og_cPL h (Ia, 0) 13 (by decide)]
    exact Y
end WLcell
