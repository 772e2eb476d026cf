section WThr
def tI : String := "java/lang/IndexOutOfBoundsException"
def tA : String := "java/lang/IllegalArgumentException"
def tS : String := "java/lang/IllegalStateException"
def xNm : List String := ["java/lang/RuntimeException", "java/lang/Exception"]
def wCD : List Cond := [.castable tI tI, .castable tA tA, .castable tS tS, .declares ⟨"java/lang/RuntimeException", "<init>", "(Ljava/lang/String;)V"⟩, .declares ⟨"java/lang/Exception", "<init>", "(Ljava/lang/String;)V"⟩, .declares ⟨"java/lang/Throwable", "<init>", "(Ljava/lang/String;)V"⟩]
def wTx : List (Nat × String) := [(48, "no such interpreter"), (55, "languages or price is out of range"), (64, "no such party"), (73, "no such judge, party or language"), (75, "both parties are the same"), (79, "there are as many matters as there can be"), (196, "hours is out of range"), (198, "it would be above 1000"), (121, "no such matter, room or interpreter"), (123, "from or hours is out of range"), (133, "the matter, its interpreter or the calendar allows no hearing"), (139, "the hearing clashes"), (153, "no such hearing, room or interpreter"), (155, "from is out of range"), (165, "the hearing is not to come, or its interpreter not as needed"), (174, "no such hearing"), (176, "the hearing is not PLANNED, or has begun"), (99, "no such matter"), (106, "the matter is not HEARD"), (112, "the matter is not DECIDED, or its balance is below 0"), (114, "the matter is not HELD_UP"), (119, "the matter is not DECIDED"), (179, "no such hearing or party"), (185, "the party is none of its matter"), (187, "the hearing is not PLANNED"), (101, "amount is out of range"), (207, "what is out of range"), (251, "no such interpreter or hour"), (216, "no such room, judge, party or interpreter, or hour")]
def wNc : List (String × String) := [(tS, tA), (tI, tA), (tI, tS), (tA, tS)]
/-- what a throw asks of the machine, beside the tables -/
def wX (A : Nat → Prop) (U : State) (H : Heap) : Prop := (∀ w ∈ wCD, va_Nw w U) ∧ (∀ t ∈ wTx, ∃ a, vk_R RX3 t.1 t.2 a U) ∧ vx_Zq Bundle.tN "UNASSIGNED_STACK" Bundle.steD A U H ∧ vx_Zq Bundle.tN "SUPPRESSED_SENTINEL" Bundle.listD A U H ∧ ∀ q ∈ wNc, va_Nc q.1 q.2 U
theorem wCD_warm {s U : State} (hW : s.WarmedH U.vm) (h : ∀ w ∈ wCD, va_Nw w s) : ∀ w ∈ wCD, va_Nw w U := by
  intro w hw
  have h1 := h w hw
  simp only [wCD, List.mem_cons, List.not_mem_nil, or_false] at hw
  rcases hw with rfl | rfl | rfl | rfl | rfl | rfl
  · exact va_Nw.warmC hW h1
  · exact va_Nw.warmC hW h1
  · exact va_Nw.warmC hW h1
  · exact va_Nw.warmD hW h1
  · exact va_Nw.warmD hW h1
  · exact va_Nw.warmD hW h1
theorem wX.at {A B : Nat → Prop} {s U : State} {H : Heap} {locs : List Loc} (h : wX A s s.heap) (hS : va_S A s.heap H locs) (hW : s.WarmedH U.vm) (hB : ∀ q, B q → A q) : wX B U H :=
  ⟨wCD_warm hW h.1, fun t ht => (h.2.1 t ht).imp fun a ha => vk_R.warm hW ha, (vx_Zq.moved hW.alike (h.2.2.1.kept hS.2.1)).narrow hB, (vx_Zq.moved hW.alike (h.2.2.2.1.kept hS.2.1)).narrow hB, fun q hq => va_Nc.moved hW.alike (h.2.2.2.2 q hq)⟩
def wB (g : wG) (z : wZ) (sz : Nat) : Nat → Prop := fun q => wA g z q ∨ sz ≤ q
def xPre (g : wG) (z : wZ) (sz : Nat) (I : wI) (P : wP) (O : wO) (U : State) : Prop := U.heap.size = sz ∧ wHd g z I P O U.heap ∧ va_K g.1 vwCl (wTy g) U ∧ wX (wB g z sz) U U.heap
abbrev wPost : Type := Option Value → wG → wZ → wI → wP → wO → Prop
def xQ (g : wG) (z : wZ) (sz : Nat) (post : wPost) : Array Value → State → Outcome → State → Prop := fun _ st oc t => (∃ (v : Option Value) (g' : wG) (z' : wZ) (I' : wI) (P' : wP) (O' : wO), oc = .returned v ∧ post v g' z' I' P' O' ∧ wHd g' z' I' P' O' t.heap) ∧ va_F (wB g z sz) st t
def xT (g : wG) (z : wZ) (sz : Nat) (I : wI) (P : wP) (O : wO) (xp : String → Prop) : String → State → State → Prop := fun E st t => xp E ∧ wHd g z I P O t.heap ∧ va_F (wB g z sz) st t
def XT (l : Launch) (y : MethodName) (w : Cond) (rm : Room) (g : wG) (z : wZ) (sz : Nat) (args : List Value) (I : wI) (P : wP) (O : wO) (mc ms : Nat) (post : wPost) (xp : String → Prop) : Prop := vx_Met l y (w :: wAll) rm (va_Pc args (xPre g z sz I P O)) (xQ g z sz post) (xT g z sz I P O xp) mc ms (wB g z sz)
theorem xBlind {g : wG} {z : wZ} {sz : Nat} {I : wI} {P : wP} {O : wO} {args : List Value} : FrameBlind (va_Pc args (xPre g z sz I P O)) := fun a U f mk q => by
  obtain ⟨q0, q1, q2, q3, q4⟩ := q
  have hW : U.WarmedH (U.calling f mk a).vm := State.WarmedH.refl U
  exact ⟨q0, q1, q2, va_K.moved (u := U) (U := U.calling f mk a) (Vm.Alike.refl U.vm) q3, q4.at (locs := []) va_S.rf hW (fun _ h => h)⟩
def Rq : wK → wG → wZ → Nat → wI → wP → wO → Nat → Nat → wPost → (String → Prop) → Prop
  | (p, l, e, R, s, m, args, below, meth, cd, Q, g, A), g0, z0, sz, I0, P0, O0, mc, ms, post, xp => Q = vx_MQ below (xQ g0 z0 sz post) (xT g0 z0 sz I0 P0 O0 xp) args s mc ms (wB g0 z0 sz) ∧ A = wB g0 z0 sz ∧ s.heap.size = sz ∧ wX A s s.heap ∧ l.stackTraces = false
def XK : wK → Prop
  | (p, l, e, R, s, m, args, below, meth, cd, Q, g, A) => wX A s s.heap ∧ ∀ q, s.heap.size ≤ q → A q
theorem Rq.k {K : wK} {g0 : wG} {z0 : wZ} {sz : Nat} {I0 : wI} {P0 : wP} {O0 : wO} {mc ms : Nat} {post : wPost} {xp : String → Prop} (h : Rq K g0 z0 sz I0 P0 O0 mc ms post xp) : XK K := by
  obtain ⟨p, l, e, R, s, m, args, below, meth, cd, Q, g, A⟩ := K
  obtain ⟨rfl, rfl, hsz, hX, hfl⟩ := h
  exact ⟨hX, fun q hq => Or.inr (by rw [← hsz]; exact hq)⟩
def Tb : wK → List ExceptionTableEntry → Prop
  | (p, l, e, R, s, m, args, below, meth, cd, Q, g, A), t => cd.exceptionTable.toList = t
def GX : wK → wZ → wI → wP → wO → Nat → Nat → Nat → List (Nat × Value) → String → Prop
  | (p, l, e, R, s, m, args, below, meth, cd, Q, g, A), z, I, P, O, c, n, pc, L, E => ∀ (H : Heap) (locs : List Loc) (ls : Array Slot) (rest : List Value) (q : Addr) (ce : Cell), wHd g z I P O H → va_S A s.heap H locs → lv_has ls cd.maxLocals L → (∀ q ∈ L, q.2.category = 1) → H[q]? = some ce → ce.vm = .none → s.vm.findClass E = some ce.cls → vx_W p l e R s m args below meth cd H locs c n Q (F0 m pc ls rest) q
abbrev Ka (K : wK) : Nat → Prop := K.2.2.2.2.2.2.2.2.2.2.2.2
/-- the same, with things at other places -/
def Kw (K : wK) (g' : wG) : wK := match K with
  | (p, l, e, R, s, m, args, below, meth, cd, Q, _, A) => (p, l, e, R, s, m, args, below, meth, cd, Q, g', A)
theorem Kw_self (K : wK) : Kw K (Kg K) = K := rfl
variable {K : wK} {cc : ByteArray} {own : String} {nL : Nat} {ret : Option FieldType} {rm : Room} {z : wZ} {I : wI} {P : wP} {O : wO} {c n pc pc' : Nat} {L : List (Nat × Value)} {S : List Value}
theorem XT.of {l : Launch} {y : MethodName} {bc : ByteArray} {mxl : Nat} {ret : Option FieldType} {rm : Room} {g : wG} {z : wZ} {sz : Nat} {args : List Value} {I : wI} {P : wP} {O : wO} {mc ms : Nat} {post : wPost} {xp : String → Prop} {own : String} (ho : y.cls = own) (hy : plainName y.cls = true) (hfl : l.stackTraces = false) (hn : (lg_sl args).length ≤ mxl) (hcat0 : (lv_args 0 args).all (fun q => q.2.category == 1) = true)
    (walk : ∀ K : wK, Cx K bc own mxl ret rm z → Kl K = l → Kg K = g → Rq K g z sz I P O mc ms post xp → Tb K [] → G K z I P O 0 0 0 (lv_args 0 args) []) : XT l y (.code y bc mxl ret) rm g z sz args I P O mc ms post xp := by
  have hcat : ∀ q ∈ lv_args 0 args, q.2.category = 1 := fun q hq => by simpa using List.all_eq_true.mp hcat0 q hq
  refine vx_ofW (cc := bc) (maxL := mxl) (ret := ret) hy rfl ?_
  intro p e s m av below meth c s₁ B hml htb hv
  obtain ⟨rfl, hsz, hH, hK, hX⟩ := hv
  rw [lg_entry_eq]
  have hts := atoms_spec (ws := .code y bc mxl ret :: wAll) B.pre
  have hl := lv_entry args hn
  refine walk (p, l, e, rm, s, m, args.toArray, below, meth, c, vx_MQ below (xQ g z sz post) (xT g z sz I P O xp) args.toArray s mc ms (wB g z sz), g, wB g z sz) ⟨B.exec, B.bytes, B.returns, hml, ?_, fun w hw => hts w (List.mem_cons_of_mem _ hw), B.notSynchronized, hK, rfl, fun k i h => Or.inl ⟨k, i, h, rfl⟩⟩ rfl rfl ⟨rfl, rfl, hsz, hX, hfl⟩ (List.eq_nil_iff_forall_not_mem.mpr fun x hx => htb x hx) s.heap [] _ hH va_S.rf ?_ hcat
  · rw [← ho]; exact findClass_of_methodNamed B.named
  · rw [hml]; exact hl
theorem XT.ofH {l : Launch} {y : MethodName} {bc : ByteArray} {mxl : Nat} {ret : Option FieldType} {hh : List (Nat × Nat × Nat × Nat)} {rm : Room} {g : wG} {z : wZ} {sz : Nat} {args : List Value} {I : wI} {P : wP} {O : wO} {mc ms : Nat} {post : wPost} {xp : String → Prop} {own : String} (ho : y.cls = own) (hy : plainName y.cls = true) (hfl : l.stackTraces = false) (hn : (lg_sl args).length ≤ mxl) (hcat0 : (lv_args 0 args).all (fun q => q.2.category == 1) = true)
    (walk : ∀ K : wK, Cx K bc own mxl ret rm z → Kl K = l → Kg K = g → Rq K g z sz I P O mc ms post xp → Tb K (tableOf hh) → G K z I P O 0 0 0 (lv_args 0 args) []) : XT l y (.codeWith y bc mxl ret hh) rm g z sz args I P O mc ms post xp := by
  have hcat : ∀ q ∈ lv_args 0 args, q.2.category = 1 := fun q hq => by simpa using List.all_eq_true.mp hcat0 q hq
  refine vx_ofWH (cc := bc) (maxL := mxl) (ret := ret) (hh := hh) hy rfl ?_
  intro p e s m av below meth c s₁ B hml hv
  obtain ⟨rfl, hsz, hH, hK, hX⟩ := hv
  rw [lg_entry_eq]
  have hts := atoms_spec (ws := .codeWith y bc mxl ret hh :: wAll) B.pre
  have hl := lv_entry args hn
  refine walk (p, l, e, rm, s, m, args.toArray, below, meth, c, vx_MQ below (xQ g z sz post) (xT g z sz I P O xp) args.toArray s mc ms (wB g z sz), g, wB g z sz) ⟨B.exec, B.bytes, B.returns, hml, ?_, fun w hw => hts w (List.mem_cons_of_mem _ hw), B.notSynchronized, hK, rfl, fun k i h => Or.inl ⟨k, i, h, rfl⟩⟩ rfl rfl ⟨rfl, rfl, hsz, hX, hfl⟩ (vx_table (x := y) B (hts _ List.mem_cons_self)) s.heap [] _ hH va_S.rf ?_ hcat
  · rw [← ho]; exact findClass_of_methodNamed B.named
  · rw [hml]; exact hl
theorem x_iret {g0 : wG} {z0 : wZ} {sz : Nat} {I0 : wI} {P0 : wP} {O0 : wO} {mc ms : Nat} {post : wPost} {xp : String → Prop} {v : Int32} (C : Cx K cc own nL (some .int) rm z) (hR : Rq K g0 z0 sz I0 P0 O0 mc ms post xp) (d : decode cc pc = .ok (.ireturn, 1)) (hc : c ≤ mc) (hn : n ≤ ms) (hq : post (some (.int v)) (Kg K) z I P O) : G K z I P O c n pc L [.int v] := by
  obtain ⟨p, l, e, R, s, m, args, below, meth, cd, Q, g, A⟩ := K
  obtain ⟨rfl, rfl, hsz, hX, hfl⟩ := hR
  obtain ⟨hx, hb, hr, -, hown, hts, hlk, hK, -, hA⟩ := C
  intro H locs ls hH hS hl hcc
  exact vx_ret (W.widen hc hn (W.iret hx hb hr (fun t ht hW => ⟨⟨_, g, z, I, P, O, rfl, hq, by rw [ht]; exact hH⟩, hS.F ht⟩) hS.2.2 d hlk))
theorem x_zret {g0 : wG} {z0 : wZ} {sz : Nat} {I0 : wI} {P0 : wP} {O0 : wO} {mc ms : Nat} {post : wPost} {xp : String → Prop} {v : Int32} (C : Cx K cc own nL (some .boolean) rm z) (hR : Rq K g0 z0 sz I0 P0 O0 mc ms post xp) (d : decode cc pc = .ok (.ireturn, 1)) (hv : narrow .boolean (.int v) = .int v) (hc : c ≤ mc) (hn : n ≤ ms) (hq : post (some (.int v)) (Kg K) z I P O) : G K z I P O c n pc L [.int v] := by
  obtain ⟨p, l, e, R, s, m, args, below, meth, cd, Q, g, A⟩ := K
  obtain ⟨rfl, rfl, hsz, hX, hfl⟩ := hR
  obtain ⟨hx, hb, hr, -, hown, hts, hlk, hK, -, hA⟩ := C
  intro H locs ls hH hS hl hcc
  exact vx_ret (W.widen hc hn (W.zret hx hb hr hv (fun t ht hW => ⟨⟨_, g, z, I, P, O, rfl, hq, by rw [ht]; exact hH⟩, hS.F ht⟩) hS.2.2 d hlk))
theorem wHd.kept {g : wG} {z : wZ} {I : wI} {P : wP} {O : wO} {H H1 : Heap} (h : wHd g z I P O H) (hk : ∀ q : Nat, q < H.size → H1[q]? = H[q]?) : wHd g z I P O H1 := ⟨fun k i hki => (h.1 k i hki).kept (hk _ (va_at.lt (h.1 k i hki))), h.2⟩
def xW (X : String) (ik ic : Nat) : Prop := Bundle.fit X = true ∧ Cond.classLink RX3 ik X ∈ wAll ∧ Cond.initialized X ∈ wAll ∧ (∀ w ∈ (vx_atS RX3 ic X xNm).filter goodWord, w ∈ wAll) ∧ (∀ w ∈ (vx_atS RX3 ic X xNm).filter (fun w => !goodWord w), w ∈ wCD) ∧ (∀ w ∈ Cond.classLink RX3 ik X :: Cond.initialized X :: vx_atS RX3 ic X xNm, vx_ot w = true)
theorem x_thr {X text : String} {ik is ic sz mc ms : Nat} {post : wPost} {xp : String → Prop} (C : Cx K cc RX3 nL ret rm z) (hR : Rq K (Kg K) z sz I P O mc ms post xp) (hT : Tb K []) (hw : xW X ik ic) (htx : (is, text) ∈ wTx) (hrm : (6 ≤ rm.frames ∧ 90 ≤ rm.locals) ∧ 1 ≤ rm.cells ∧ 6 ≤ rm.slots) (hm : 1 ≤ mc ∧ 6 ≤ ms)
    (d0 : decode cc pc = .ok (.new ik, 3)) (d3 : decode cc (pc + 3) = .ok (.dup, 1)) (d4 : decode cc (pc + 4) = .ok (.ldc is, 2)) (d6 : decode cc (pc + 6) = .ok (.invokespecial ic, 3)) (d9 : decode cc (pc + 9) = .ok (.athrow, 1)) (hxp : xp X) : G K z I P O 0 0 pc L [] := by
  obtain ⟨p, l, e, R, s, m, args, below, meth, cd, Q, g, A⟩ := K
  have hR : Q = vx_MQ below (xQ g z sz post) (xT g z sz I P O xp) args s mc ms (wB g z sz) ∧ A = wB g z sz ∧ s.heap.size = sz ∧ wX A s s.heap ∧ l.stackTraces = false := hR
  obtain ⟨rfl, rfl, hsz, hX, hfl⟩ := hR
  obtain ⟨hx, hb, hr, hml, hown, hts, hlk, hK, rfl, hA⟩ := C
  have hT : cd.exceptionTable.toList = [] := hT
  obtain ⟨w1, w2, w3, w4, w5, w6⟩ := hw
  obtain ⟨sa, hstr⟩ := hX.2.1 _ htx
  intro H locs ls hH hS hl hcc
  refine vx_throwS (A := wB g z sz) (sa := sa) (text := text) hx hb hfl hown w1 (by decide) (hts _ w2) (hts _ w3) hstr (vx_hat (fun w h => hts w (w4 w h)) w5 (fun w h => va_tabs (by revert h; simp only [wCD, List.mem_cons, List.not_mem_nil, or_false]; rintro (rfl | rfl | rfl | rfl | rfl | rfl) <;> rfl) rfl (hX.1 w h))) w6 hX.2.2.1 hX.2.2.2.1 hS hl.1 d0 d3 d4 d6 d9 (by rw [hT]; intro x hx; cases hx) (by show 2 + 3 < _; omega) (by show 0 + (13 * (2 + 1) + 43) ≤ _; omega) (by omega) (by omega) hlk (fun t hW hz hk => ⟨hxp, hH.kept hk, ?_⟩) hS.2.2 (by omega) (by omega)
  exact ⟨Nat.le_trans hS.1 hz, fun q h1 h2 => (hk q (Nat.lt_of_lt_of_le h1 hS.1)).trans (hS.2.1 q h1 h2)⟩
theorem x_run {p : Program} {l : Launch} {e : Env} {R : Room} {s : State} {m : MethodId} {args : Array Value} {below : List Frame} {meth : Method} {cd : Code} {H : Heap} {locs : List Loc} {cells slots mc ms : Nat} {Q : State → Prop} {g : wG} {A : Nat → Prop} {z : wZ} {I : wI} {P : wP} {O : wO} {ls : Array Slot} {a : Array Value} {st0 rest : List Value} {pc : Nat} {L : List (Nat × Value)} {post : wPost} {xp : String → Prop} (hr : vx_Run p l e R s m args below meth cd H locs cells slots mc ms (F0 m pc ls st0) rest (xQ g z H.size post a) (xT g z H.size I P O xp) (wB g z H.size)) (hS : va_S A s.heap H locs) (hA : ∀ q, wB g z H.size q → A q) (hl : lv_has ls cd.maxLocals L) (hc : ∀ q ∈ L, q.2.category = 1)
    (kx : ∀ E, xp E → GX (p, l, e, R, s, m, args, below, meth, cd, Q, g, A) z I P O (cells + mc) (slots + ms) pc L E)
    (kk : ∀ v g' z' I' P' O', post v g' z' I' P' O' → G (p, l, e, R, s, m, args, below, meth, cd, Q, g', A) z' I' P' O' (cells + mc) (slots + ms) (pc + 3) L (v.toList ++ rest)) : W p l e R s m args below meth cd H locs cells slots Q (F0 m pc ls st0) := by
  intro T hT X
  rcases hr T hT X with ⟨v, st₀, t, T', L1, h0, X', hL, e1, e2, ⟨⟨v', g', z', I', P', O', hv, hpost, hHd⟩, hF⟩, st⟩ | ⟨q, st₀, t, T', L1, E, ce, h0, X', hL, e1, e2, ⟨hxp, hHd, hF⟩, hce, hcv, hcl, st⟩
  · cases hv
    obtain ⟨k1, k2, k3⟩ := vx_keep h0 e1 hS (fun q _ h => hA q h) hA hL hF
    obtain ⟨t2, a1, b1⟩ := kk v g' z' I' P' O' hpost T'.heap (locs ++ L1) ls (by rw [e1]; exact hHd) k3 hl hc T' rfl X'
    exact ⟨t2, st t2 a1, b1⟩
  · obtain ⟨k1, k2, k3⟩ := vx_keep h0 e1 hS (fun q _ h => hA q h) hA hL hF
    obtain ⟨t2, a1, b1⟩ := kx E hxp T'.heap (locs ++ L1) ls rest q ce (by rw [e1]; exact hHd) k3 hl hc (by rw [e1]; exact hce) hcv hcl T' rfl X'
    exact ⟨t2, st.trans a1, b1⟩
theorem wB_in {g : wG} {z : wZ} {A : Nat → Prop} {H0 H : Heap} {locs : List Loc} (hA : ∀ k i, wAl z k i → A (g.2.2 k i)) (hA2 : ∀ q, H0.size ≤ q → A q) (hS : va_S A H0 H locs) : ∀ q, wB g z H.size q → A q := fun q h => by
  rcases h with h | h
  · exact wA_in hA q h
  · exact hA2 q (Nat.le_trans hS.1 h)
theorem x_callV (C : Cx K cc own nL ret rm z) (hXK : XK K) {index mxl k i ci N mc ms : Nat} {y : MethodName} {bc : ByteArray} {rt : Option FieldType} {rmy : Room} {As S0 : List Value} {fs : List Value} {Cn : String} {T : u_T} {post : Nat → wPost} {xp : String → Prop} (hw : wV own index Cn y bc mxl rt) (hM : ∀ sz, XT (Kl K) y (.code y bc mxl rt) rmy (Kg K) z sz (.ref ((Kg K).2.2 k i) :: As) I P O mc ms (post sz) xp) (d : decode cc pc = .ok (.invokevirtual index, 3)) (hal : wAl z k i) (he : wE (Kg K) (I k i) (P k i) O k i = .inr (ci, fs)) (hc : vwCl[ci]? = some (Cn, T, N))
    (hd : y.cls = Cn ∧ y.cls ≠ "java/lang/invoke/MethodHandle" ∧ y.cls ≠ "java/lang/invoke/VarHandle" ∧ (parseMethodDescriptor y.desc).map (fun d => d.parameters.length) = some As.length) (hroom : (rmy.frames + 1 ≤ rm.frames ∧ 8 + (mxl + 11) + rmy.locals ≤ rm.locals) ∧ rmy.cells = mc ∧ rmy.slots = ms) (hS0 : S0 = As.reverse ++ .ref ((Kg K).2.2 k i) :: S) (hcat : (S.map fun v => v.category).sum ≤ 8) (hf : c + mc ≤ rm.cells ∧ n + ms ≤ rm.slots) (hp : pc + 3 = pc') (kx : ∀ E, xp E → GX K z I P O (c + mc) (n + ms) pc L E) (kk : ∀ sz v g' z' I' P' O', (∀ q, sz ≤ q → Ka K q) → post sz v g' z' I' P' O' → G (Kw K g') z' I' P' O' (c + mc) (n + ms) pc' L (v.toList ++ S)) : G K z I P O c n pc L S0 := by
  subst hp
  subst hS0
  obtain ⟨p, l, e, R, s, m, args, below, meth, cd, Q, g, A⟩ := K
  obtain ⟨hx, hb, hr, hml, hown, hts, hlk, hK, rfl, hA⟩ := C
  obtain ⟨hX, hA2⟩ := hXK
  intro H locs ls hH hS hl hcc
  have hP := cl_one (hH.1 k i hal)
  rw [show wE g (I k i) (P k i) O k i = _ from he] at hP
  refine x_run (vx_runV (As := As) (rest := S) (nL := nL) ⟨hx, hb, hml, hown, hts⟩ (hM H.size) (cwV As.length hts (wV_good hw) rfl hroom.2.1 hroom.2.2 hd hroom.1) ⟨xBlind, va_recv hK hP (ci := ci) (q0 := 0) hc rfl, fun U hU hW => ⟨rfl, by rw [hU], by rw [hU]; exact hH, va_K.moved hW.alike hK, by rw [hU]; exact hX.at hS hW (wB_in hA hA2 hS)⟩⟩ rfl rfl (hl.1.trans hml) rfl (lv_room hcat) d hf) hS (wB_in hA hA2 hS) hl hcc kx (fun v g' z' I' P' O' hp => kk H.size v g' z' I' P' O' (fun q hq => hA2 q (Nat.le_trans hS.1 hq)) hp)
def wSW (own : String) (index : Nat) (y : MethodName) (bc : ByteArray) (mxl : Nat) (rt : Option FieldType) (hh : List (Nat × Nat × Nat × Nat)) : Prop := Cond.methodLink own index y ∈ wAll ∧ Cond.static y ∈ wAll ∧ Cond.initialized y.cls ∈ wAll ∧ Cond.codeWith y bc mxl rt hh ∈ wAll
theorem wSW_good {own : String} {index mxl : Nat} {y : MethodName} {bc : ByteArray} {rt : Option FieldType} {hh : List (Nat × Nat × Nat × Nat)} (h : wSW own index y bc mxl rt hh) : GoodIn wAll (va_wsS own index y (.codeWith y bc mxl rt hh :: wAll)) := by
  obtain ⟨h1, h2, h3, h5⟩ := h
  intro w hw
  have hm : w ∈ wAll := by
    unfold va_wsS at hw
    simp only [List.cons_append, List.nil_append, List.mem_cons] at hw
    rcases hw with rfl | rfl | rfl | rfl | hw
    · exact h1
    · exact h2
    · exact h3
    · exact h5
    · exact hw
  exact wAll_self w hm
theorem x_callS (C : Cx K cc own nL ret rm z) (hXK : XK K) {index mxl mc ms : Nat} {y : MethodName} {bc : ByteArray} {rt : Option FieldType} {hh : List (Nat × Nat × Nat × Nat)} {rmy : Room} {As S0 : List Value} {post : Nat → wPost} (hw : wSW own index y bc mxl rt hh) (hM : ∀ sz, XT (Kl K) y (.codeWith y bc mxl rt hh) rmy (Kg K) z sz As I P O mc ms (post sz) (fun _ => False)) (d : decode cc pc = .ok (.invokestatic index, 3))
    (hd : y.cls ≠ "java/lang/invoke/MethodHandle" ∧ y.cls ≠ "java/lang/invoke/VarHandle" ∧ (parseMethodDescriptor y.desc).map (fun d => d.parameters.length) = some As.length) (hroom : (rmy.frames + 1 ≤ rm.frames ∧ 8 + (mxl + 11) + rmy.locals ≤ rm.locals) ∧ rmy.cells = mc ∧ rmy.slots = ms) (hS0 : S0 = As.reverse ++ S) (hcat : (S.map fun v => v.category).sum ≤ 8) (hf : c + mc ≤ rm.cells ∧ n + ms ≤ rm.slots) (hp : pc + 3 = pc') (kk : ∀ sz v g' z' I' P' O', (∀ q, sz ≤ q → Ka K q) → post sz v g' z' I' P' O' → G (Kw K g') z' I' P' O' (c + mc) (n + ms) pc' L (v.toList ++ S)) : G K z I P O c n pc L S0 := by
  subst hp
  subst hS0
  obtain ⟨p, l, e, R, s, m, args, below, meth, cd, Q, g, A⟩ := K
  obtain ⟨hx, hb, hr, hml, hown, hts, hlk, hK, rfl, hA⟩ := C
  obtain ⟨hX, hA2⟩ := hXK
  intro H locs ls hH hS hl hcc
  refine x_run (vx_runSX (As := As) (rest := S) (nL := nL) ⟨hx, hb, hml, hown, hts⟩ (hM H.size) (vx_cwSW As.length hts (wSW_good hw) rfl hroom.2.1 hroom.2.2 hd hroom.1) ⟨xBlind, fun U hU hW => ⟨rfl, by rw [hU], by rw [hU]; exact hH, va_K.moved hW.alike hK, by rw [hU]; exact hX.at hS hW (wB_in hA hA2 hS)⟩⟩ rfl rfl (hl.1.trans hml) rfl (lv_room hcat) d hf) hS (wB_in hA hA2 hS) hl hcc (fun E h => h.elim) (fun v g' z' I' P' O' hp => kk H.size v g' z' I' P' O' (fun q hq => hA2 q (Nat.le_trans hS.1 hq)) hp)
/-- caught by the row x of this method's table -/
theorem x_catch {E : String} {t : List ExceptionTableEntry} (C : Cx K cc RL nL ret rm z) (hXK : XK K) (hT : Tb K t) (pre : List ExceptionTableEntry) (x : ExceptionTableEntry) (suf : List ExceptionTableEntry) (hsplit : t = pre ++ x :: suf) (hpass : ∀ y ∈ pre, y.catchType ≠ 0 ∧ ∃ nm, Cond.classLink RL y.catchType nm ∈ wAll ∧ (E, nm) ∈ wNc) (hx : covers x pc = true) (h0 : x.catchType ≠ 0) (hlink : Cond.classLink RL x.catchType E ∈ wAll) (hE : Cond.castable E E ∈ wCD) (kk : ∀ q, G K z I P O c n x.handlerPc L [.ref q]) : GX K z I P O c n pc L E := by
  obtain ⟨p, l, e, R, s, m, args, below, meth, cd, Q, g, A⟩ := K
  obtain ⟨hxx, hb, hr, hml, hown, hts, hlk, hK, hrm, hA⟩ := C
  obtain ⟨hX, hA2⟩ := hXK
  have hT : cd.exceptionTable.toList = t := hT
  intro H locs ls rest q ce hH hS hl hcc h1 h2 h3
  refine vx_catch hown pre x suf (by rw [hT, hsplit]) (fun y hy => Or.inr ?_) hx h0 (hts _ hlink) (va_tabs rfl rfl (hX.1 _ hE)) h1 h2 h3 (kk q H locs ls hH hS hl hcc)
  obtain ⟨a, nm, b1, b2⟩ := hpass y hy
  exact ⟨a, nm, hts _ b1, hX.2.2.2.2 _ b2⟩
theorem xwI : xW tI 46 50 := ⟨by decide +kernel, wAll_i 95 (by decide +kernel) (by decide +kernel), wAll_i 20 (by decide +kernel) (by decide +kernel), wAll_sub (by decide +kernel) (by decide +kernel), by decide +kernel, by decide +kernel⟩
theorem xwA : xW tA 53 57 := ⟨by decide +kernel, wAll_i 163 (by decide +kernel) (by decide +kernel), wAll_i 21 (by decide +kernel) (by decide +kernel), wAll_sub (by decide +kernel) (by decide +kernel), by decide +kernel, by decide +kernel⟩
theorem lkA : Cond.classLink RL 41 tA ∈ wAll := wAll_i 332 (by decide +kernel) (by decide +kernel)
theorem xwS : xW tS 77 81 := ⟨by decide +kernel, wAll_i 196 (by decide +kernel) (by decide +kernel), wAll_i 22 (by decide +kernel) (by decide +kernel), wAll_sub (by decide +kernel) (by decide +kernel), by decide +kernel, by decide +kernel⟩
theorem lkS : Cond.classLink RL 44 tS ∈ wAll := wAll_i 333 (by decide +kernel) (by decide +kernel)
theorem cw_L_calls : wSW RL 81 yL_calls cL_calls 8 (some .int) [(0, 127, 128, 41), (0, 127, 133, 44)] := ⟨wAll_i 329 (by decide +kernel) (by decide +kernel), wAll_i 330 (by decide +kernel) (by decide +kernel), wAll_i 14 (by decide +kernel) (by decide +kernel), wAll_i 331 (by decide +kernel) (by decide +kernel)⟩
end WThr
