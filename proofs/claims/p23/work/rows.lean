section
-- ===== PART A: goes FIRST, ahead of the names: the tables' words, and 'selects' of the private methods out of them =====
/-- a private method of a class that the tables say can be made, by its rows of tables_1 -/
def lw_okq (q : MethodName × Nat) : Prop := (q.1.cls ≠ "java/lang/invoke/MethodHandle" ∧ q.1.cls ≠ "java/lang/invoke/VarHandle") ∧ Cond.instantiable q.1.cls q.2 ∈ tables_1 ∧ Cond.privateMethod q.1 ∈ tables_1 ∧ Cond.instanceMethod q.1 ∈ tables_1
theorem lw_p0 : lw_okq (⟨"Hearingpay", "interpreterAt", "(I)LHearingpay$Interpreter;"⟩, 7) := ⟨⟨by decide +kernel, by decide +kernel⟩, List.mem_of_getElem? (i := 12) (by decide +kernel), List.mem_of_getElem? (i := 78) (by decide +kernel), List.mem_of_getElem? (i := 79) (by decide +kernel)⟩
theorem lw_p1 : lw_okq (⟨"java/lang/Throwable", "fillInStackTrace", "(I)Ljava/lang/Throwable;"⟩, 6) := ⟨⟨by decide +kernel, by decide +kernel⟩, List.mem_of_getElem? (i := 120) (by decide +kernel), List.mem_of_getElem? (i := 118) (by decide +kernel), List.mem_of_getElem? (i := 119) (by decide +kernel)⟩
theorem lw_p2 : lw_okq (⟨"Hearingpay", "feeFor", "(LHearingpay$Matter;I)I"⟩, 7) := ⟨⟨by decide +kernel, by decide +kernel⟩, List.mem_of_getElem? (i := 12) (by decide +kernel), List.mem_of_getElem? (i := 242) (by decide +kernel), List.mem_of_getElem? (i := 243) (by decide +kernel)⟩
theorem lw_p3 : lw_okq (⟨"Hearingpay", "endHearings", "()I"⟩, 7) := ⟨⟨by decide +kernel, by decide +kernel⟩, List.mem_of_getElem? (i := 12) (by decide +kernel), List.mem_of_getElem? (i := 252) (by decide +kernel), List.mem_of_getElem? (i := 253) (by decide +kernel)⟩
theorem lw_p4 : lw_okq (⟨"Hearingpay", "hearingAt", "(I)LHearingpay$Hearing;"⟩, 7) := ⟨⟨by decide +kernel, by decide +kernel⟩, List.mem_of_getElem? (i := 12) (by decide +kernel), List.mem_of_getElem? (i := 256) (by decide +kernel), List.mem_of_getElem? (i := 257) (by decide +kernel)⟩
theorem lw_p5 : lw_okq (⟨"Hearingpay", "runTerms", "()V"⟩, 7) := ⟨⟨by decide +kernel, by decide +kernel⟩, List.mem_of_getElem? (i := 12) (by decide +kernel), List.mem_of_getElem? (i := 268) (by decide +kernel), List.mem_of_getElem? (i := 269) (by decide +kernel)⟩
theorem lw_p6 : lw_okq (⟨"Hearingpay", "matterAt", "(I)LHearingpay$Matter;"⟩, 7) := ⟨⟨by decide +kernel, by decide +kernel⟩, List.mem_of_getElem? (i := 12) (by decide +kernel), List.mem_of_getElem? (i := 272) (by decide +kernel), List.mem_of_getElem? (i := 273) (by decide +kernel)⟩
theorem lw_p7 : lw_okq (⟨"Hearingpay", "isAsNeeded", "(LHearingpay$Matter;I)Z"⟩, 7) := ⟨⟨by decide +kernel, by decide +kernel⟩, List.mem_of_getElem? (i := 12) (by decide +kernel), List.mem_of_getElem? (i := 328) (by decide +kernel), List.mem_of_getElem? (i := 329) (by decide +kernel)⟩
theorem lw_p8 : lw_okq (⟨"Hearingpay", "clashReason", "(LHearingpay$Hearing;LHearingpay$Matter;IIII)I"⟩, 7) := ⟨⟨by decide +kernel, by decide +kernel⟩, List.mem_of_getElem? (i := 12) (by decide +kernel), List.mem_of_getElem? (i := 337) (by decide +kernel), List.mem_of_getElem? (i := 338) (by decide +kernel)⟩
theorem lw_p9 : lw_okq (⟨"Hearingpay", "put", "(LHearingpay$Hearing;III)V"⟩, 7) := ⟨⟨by decide +kernel, by decide +kernel⟩, List.mem_of_getElem? (i := 12) (by decide +kernel), List.mem_of_getElem? (i := 402) (by decide +kernel), List.mem_of_getElem? (i := 403) (by decide +kernel)⟩
theorem lw_p10 : lw_okq (⟨"Hearingpay", "isToBegin", "(LHearingpay$Hearing;)Z"⟩, 7) := ⟨⟨by decide +kernel, by decide +kernel⟩, List.mem_of_getElem? (i := 12) (by decide +kernel), List.mem_of_getElem? (i := 431) (by decide +kernel), List.mem_of_getElem? (i := 432) (by decide +kernel)⟩
theorem lw_p11 : lw_okq (⟨"Hearingpay", "leave", "(LHearingpay$Hearing;)V"⟩, 7) := ⟨⟨by decide +kernel, by decide +kernel⟩, List.mem_of_getElem? (i := 12) (by decide +kernel), List.mem_of_getElem? (i := 436) (by decide +kernel), List.mem_of_getElem? (i := 437) (by decide +kernel)⟩
theorem lw_p12 : lw_okq (⟨"Hearingpay", "dropAllOf", "(LHearingpay$Matter;)I"⟩, 7) := ⟨⟨by decide +kernel, by decide +kernel⟩, List.mem_of_getElem? (i := 12) (by decide +kernel), List.mem_of_getElem? (i := 456) (by decide +kernel), List.mem_of_getElem? (i := 457) (by decide +kernel)⟩
theorem lw_p13 : lw_okq (⟨"Hearingpay", "paidHoursOf", "(LHearingpay$Matter;)I"⟩, 7) := ⟨⟨by decide +kernel, by decide +kernel⟩, List.mem_of_getElem? (i := 12) (by decide +kernel), List.mem_of_getElem? (i := 513) (by decide +kernel), List.mem_of_getElem? (i := 514) (by decide +kernel)⟩
def lw_privs_1 : List (MethodName × Nat) := [(⟨"Hearingpay", "interpreterAt", "(I)LHearingpay$Interpreter;"⟩, 7), (⟨"java/lang/Throwable", "fillInStackTrace", "(I)Ljava/lang/Throwable;"⟩, 6), (⟨"Hearingpay", "feeFor", "(LHearingpay$Matter;I)I"⟩, 7), (⟨"Hearingpay", "endHearings", "()I"⟩, 7), (⟨"Hearingpay", "hearingAt", "(I)LHearingpay$Hearing;"⟩, 7), (⟨"Hearingpay", "runTerms", "()V"⟩, 7), (⟨"Hearingpay", "matterAt", "(I)LHearingpay$Matter;"⟩, 7), (⟨"Hearingpay", "isAsNeeded", "(LHearingpay$Matter;I)Z"⟩, 7), (⟨"Hearingpay", "clashReason", "(LHearingpay$Hearing;LHearingpay$Matter;IIII)I"⟩, 7), (⟨"Hearingpay", "put", "(LHearingpay$Hearing;III)V"⟩, 7), (⟨"Hearingpay", "isToBegin", "(LHearingpay$Hearing;)Z"⟩, 7), (⟨"Hearingpay", "leave", "(LHearingpay$Hearing;)V"⟩, 7), (⟨"Hearingpay", "dropAllOf", "(LHearingpay$Matter;)I"⟩, 7), (⟨"Hearingpay", "paidHoursOf", "(LHearingpay$Matter;)I"⟩, 7)]
theorem lw_r1 : ∀ q ∈ lw_privs_1, lw_okq q := List.forall_mem_cons.mpr ⟨lw_p0, List.forall_mem_cons.mpr ⟨lw_p1, List.forall_mem_cons.mpr ⟨lw_p2, List.forall_mem_cons.mpr ⟨lw_p3, List.forall_mem_cons.mpr ⟨lw_p4, List.forall_mem_cons.mpr ⟨lw_p5, List.forall_mem_cons.mpr ⟨lw_p6, List.forall_mem_cons.mpr ⟨lw_p7, List.forall_mem_cons.mpr ⟨lw_p8, List.forall_mem_cons.mpr ⟨lw_p9, List.forall_mem_cons.mpr ⟨lw_p10, List.forall_mem_cons.mpr ⟨lw_p11, List.forall_mem_cons.mpr ⟨lw_p12, List.forall_mem_cons.mpr ⟨lw_p13, fun _ h => absurd h List.not_mem_nil⟩⟩⟩⟩⟩⟩⟩⟩⟩⟩⟩⟩⟩⟩
def lw_privs : List (MethodName × Nat) := lw_privs_1
def lw_tbl : List Cond := k2_sels lw_privs ++ tables_1
theorem lw_privs_ok : ∀ q ∈ lw_privs, lw_okq q := lw_r1
-- ===== end of PART A; then your names; then what follows =====
/-! ===== BEGIN words of one list among another's, by their places ===== -/
theorem goodIn_r {big : List Cond} (ws : List Cond) (ps : List Nat) (hp : ws = ps.filterMap (fun i => big[i]?)) (h : ws.all goodWord = true) : GoodIn big ws := by
  intro w hw
  have h1 := List.all_eq_true.mp h w hw
  rw [hp] at hw
  obtain ⟨i, -, hi⟩ := List.mem_filterMap.mp hw
  have hm : w ∈ big := by first | exact List.mem_of_getElem? hi | exact List.getElem?_mem hi
  exact ⟨hm, good_of_word h1⟩
theorem goodIn_app {big a b : List Cond} (ha : GoodIn big a) (hb : GoodIn big b) : GoodIn big (a ++ b) := fun w h => (List.mem_append.mp h).elim (ha w) (hb w)
theorem goodIn_ca {big a b : List Cond} {c : Cond} (ha : GoodIn big (c :: a)) (hb : GoodIn big b) : GoodIn big (c :: (a ++ b)) := fun w h => (List.mem_cons.mp h).elim (fun e => ha w (List.mem_cons.mpr (Or.inl e))) (fun h => (List.mem_append.mp h).elim (fun h => ha w (List.mem_cons.mpr (Or.inr h))) (hb w))
theorem goodIn_sub {big ws : List Cond} (hm : ∀ w ∈ ws, w ∈ big) (h : ws.all goodWord = true) : GoodIn big ws := fun w hw => ⟨hm w hw, good_of_word (List.all_eq_true.mp h w hw)⟩
/-! ===== END ===== -/

/-! ===== BEGIN exceptions that leave a method, and their catching by the caller (launches without stack traces) ===== -/
section VXA
/-! The laws vx_back, vx_callV, vx_callS, vx_callSW, vx_throw0, vx_throwS follow proofs of the library, with one case more: JvmDerived/Free/Laws.lean (Back.of_free), Shelf42/LK1.lean (callV, callS), Shelf/KitTraced.lean (throwNew0V, throwNewS). -/
/-- where a method has thrown q: the class by its name, the cell, what was written, the world -/
def vx_T (XC : String → State → State → Prop) (st : State) (q : Addr) (t : State) (mc ms : Nat) (free : Addr → Prop) : Prop :=
  ∃ (E : String) (ce : Cell) (L : List Loc), XC E st t ∧ t.heap[q]? = some ce ∧ ce.vm = .none ∧ st.vm.findClass E = some ce.cls ∧ st.WarmedH t.vm ∧ st.sameButNew ({ t with vm := st.vm } : State) L mc ms ∧ ∀ z ∈ L, free z.base
def vx_Q (Qc : Array Value → State → Outcome → State → Prop) (XC : String → State → State → Prop) (mc ms : Nat) (free : Addr → Prop) : Array Value → State → Outcome → State → Prop := fun a st o t =>
  (Qc a st o t ∧ ∃ L, FrameEnd st o t L mc ms ∧ ∀ q ∈ L, free q.base) ∨ ∃ q, o = .threw q ∧ vx_T XC st q t mc ms free
/-- a callee that returns or throws -/
def vx_Met (l : Launch) (y : MethodName) (ws : List Cond) (rm : Room) (Pc : Array Value → State → Prop) (Qc : Array Value → State → Outcome → State → Prop) (XC : String → State → State → Prop) (mc ms : Nat) (free : Addr → Prop) : Prop :=
  MetFree l y (headSpec ws rm) Pc (fun _ _ _ _ _ => True) (vx_Q Qc XC mc ms free)
def vx_Post (XC : String → State → State → Prop) (mc ms : Nat) (free : Addr → Prop) : Pt → Array Value → Addr → Pt → Prop := fun A a q B =>
  ∃ (g : JFrame) (mk : MethodId) (t : State) (L : List Loc) (E : String) (ce : Cell), B.U.heap = t.heap ∧ B.U.vm = t.vm ∧ XC E (A.U.calling g mk a) t ∧ t.heap[q]? = some ce ∧ ce.vm = .none ∧ A.U.vm.findClass E = some ce.cls ∧ B.locs = A.locs ++ L ∧ (∀ z ∈ L, free z.base) ∧ B.cells = A.cells + mc ∧ B.slots = A.slots + ms
def vx_Back (l : Launch) (R : Room) (p : Program) (e : Env) (below : List Frame) (s : State) (sargs : Array Value) (y : MethodName) (len W9 : Nat)
    (Pre : Pt → Array Value → Prop) (Post : Pt → Array Value → Option Value → Pt → Prop) (PostX : Pt → Array Value → Addr → Pt → Prop) : Prop :=
  ∀ (m : MethodId) (meth : Method) (c : Code) (A : Pt) (g : JFrame) (ig : Instr) (mk : MethodId) (a : Array Value),
    Stand p l e R s m sargs below meth c A.U A.locs A.cells A.slots → g.method = m → g.locals.size = c.maxLocals → decode c.code g.pc = .ok (ig, len) →
    2 * g.monitorRoom + (g.stack.map fun v => v.category).sum ≤ W9 → A.U.methodNamed? y = some mk → Pre A a →
    (∃ (v : Option Value) (B : Pt), Stand p l e R s m sargs below meth c B.U B.locs B.cells B.slots ∧ Post A a v B ∧
      Steps p.tables e below (doInvoke e (A.U.setTop g) [] mk a).1 (B.U.setTop { g with pc := g.pc + len, stack := v.toList ++ g.stack })) ∨
    (∃ (q : Addr) (B : Pt), Stand p l e R s m sargs below meth c B.U B.locs B.cells B.slots ∧ PostX A a q B ∧
      Steps p.tables e below (doInvoke e (A.U.setTop g) [] mk a).1 ((B.U.setTop g).pushFrame (.throwing q)))
section Payer
variable {l : Launch} {R : Room} {p : Program} {e : Env} {below : List Frame} {s : State} {sargs : Array Value} {y : MethodName} {len W9 : Nat}
theorem vx_back {ws : List Cond} {rm : Room} {Pc : Array Value → State → Prop} {Qc : Array Value → State → Outcome → State → Prop} {XC : String → State → State → Prop} {mc ms : Nat} {free : Addr → Prop} {bytes : ByteArray} {maxL : Nat} {ret : Option FieldType}
    (hM : vx_Met l y ws rm Pc Qc XC mc ms free) (hblind : FrameBlind Pc) (hrc : rm.cells = mc) (hrs : rm.slots = ms)
    (hframes : rm.frames + 1 ≤ R.frames) (hlocals : W9 + (maxL + 11) + rm.locals ≤ R.locals)
    (hws : ∀ w ∈ ws, ∀ a' U, s.WarmedH U.vm → w.before a' U = true) (hcode : Cond.code y bytes maxL ret ∈ ws) (hinit : ∀ a' U, s.WarmedH U.vm → (Cond.initialized y.cls).before a' U = true) :
    vx_Back l R p e below s sargs y len W9 (PreOf R mc ms Pc) (PostOf Qc mc ms free) (vx_Post XC mc ms free) := by
  intro m meth c A g ig mk a X hg hsize hdg hW hn hp
  have h1 : (headSpec ws rm).pre.before a A.U = true := atoms_intro fun w hw => hws w hw _ _ X.warmed
  have h2 : (Cond.code y bytes maxL ret).before a A.U = true := hws _ hcode _ _ X.warmed
  have h3 : (Cond.initialized y.cls).before a A.U = true := hinit _ _ X.warmed
  have h4 : A.cells + (headSpec ws rm).room.cells ≤ R.cells := by rw [show (headSpec ws rm).room.cells = mc from hrc]; exact hp.1
  have h5 : A.slots + (headSpec ws rm).room.slots ≤ R.slots := by rw [show (headSpec ws rm).room.slots = ms from hrs]; exact hp.2.1
  have hPc : Pc a (A.U.calling g mk a) := hblind _ _ _ _ hp.2.2
  obtain ⟨U, Ls, c0, s0⟩ := A
  dsimp only [Pt.U, Pt.locs, Pt.cells, Pt.slots] at h1 h2 h3 h4 h5 X hn hPc ⊢
  obtain ⟨methY, cY, hmY, hcY, -, hlY, -, -, -, -⟩ := Cond.code_spec hn h2
  obtain ⟨kY, hkY, -⟩ := className_of_methodNamed hn
  have hinitY : kY.init = .initialized := Cond.initialized_spec (findClass_of_methodNamed hn) hkY h3
  have h : At U g.method c below := by rw [hg]; exact X.here
  have hlocals9 : W9 + (maxL + 11) + (headSpec ws rm).room.locals ≤ R.locals := hlocals
  have happ : (headSpec ws rm).appliesLoose y e.platform (U.calling g mk a) = true :=
    Spec.appliesLoose_calling (g := g) h hdg hn hkY hinitY
      (X.room_calling (g := g) (R' := (headSpec ws rm).room) hsize hmY hcY hframes (by rw [hlY]; omega) h4 h5) h1
  obtain ⟨mid, hmid⟩ := h.above
  have hfr : (U.setTop g).frames = (.java g :: mid) ++ below := by rw [State.frames_setTop' g h.top, hmid]; rfl
  obtain ⟨o, s₂, hsteps, -, hend, hq⟩ := Steps.callFree hM p X.admits X.cas X.clock (acts := []) hfr happ hPc trivial
  have hq' : vx_Q Qc XC mc ms free a (U.calling g mk a) o s₂ := hq
  rw [State.frames_setTop' g h.top] at hend
  obtain ⟨g₀, hg0⟩ := Option.isSome_iff_exists.mp h.top
  obtain ⟨r, hr⟩ := State.topJava?_eq_some.mp hg0
  have hr' : (({ U with heap := s₂.heap, slotsUsed := s₂.slotsUsed } : State).setVm s₂.vm).frames = .java g₀ :: r := hr
  rcases hq' with ⟨hqc, L, hfe, hL⟩ | ⟨q, rfl, E, ce, L, hx, hce, hcv, hcl, hW₂, hsm, hL⟩
  · obtain ⟨⟨v, rfl⟩, hW₂, e2, q2, q3, q4, q5, q6⟩ := id hfe
    have e3 : s₂ = ({ (U.calling g mk a).setFrames s₂.frames with heap := s₂.heap, slotsUsed := s₂.slotsUsed } : State).setVm s₂.vm := by
      have : s₂ = ({ s₂ with vm := (U.calling g mk a).vm } : State).setVm s₂.vm := rfl
      rw [e2] at this
      exact this
    obtain ⟨c₂, i₂, len₂, hc₂, hd₂, hf₂⟩ := hend
    have hW' : U.WarmedH s₂.vm := hW₂
    have hcc : c₂ = c := by
      have h1 : s₂.code? g.method = U.code? g.method := by
        rw [State.code?_eq, State.code?_eq, hW'.alike.method?]
      exact Option.some.inj (hc₂.symm.trans (h1.trans h.code))
    subst hcc
    have hlen : len₂ = len := by rw [hdg] at hd₂; cases hd₂; rfl
    subst hlen
    have hs₂ : s₂ = (({ U with heap := s₂.heap, slotsUsed := s₂.slotsUsed } : State).setVm s₂.vm).setTop { g with pc := g.pc + len₂, stack := v.toList ++ g.stack } := by
      refine e3.trans ?_
      rw [hf₂, State.calling_eq h.top, State.setFrames_setFrames, State.setTop_of_frames _ hr', hr]
      rfl
    have hsame : U.sameButNew ({ U with heap := s₂.heap, slotsUsed := s₂.slotsUsed } : State) L mc ms := by
      refine ⟨?_, q2, q3, q4, q5, q6⟩
      obtain ⟨t, ht, -⟩ := State.frames_cons hr
      show ({ U with heap := s₂.heap, slotsUsed := s₂.slotsUsed } : State) = { U.setFrames U.frames with heap := s₂.heap, slotsUsed := s₂.slotsUsed }
      rw [State.setFrames_self ht]
    subst hg
    refine Or.inl ⟨v, ⟨(({ U with heap := s₂.heap, slotsUsed := s₂.slotsUsed } : State).setVm s₂.vm), Ls ++ L, c0 + mc, s0 + ms⟩,
      ⟨X.admits, X.cas, X.clock, X.frames, X.room, X.hears, X.method, X.code, (X.here.setHeapUsed s₂.heap s₂.slotsUsed).setVm hW'.alike, X.tail, State.WarmedH.trans X.warmed hW', X.limits, X.bytes, X.same.trans (hsame.setVm s.vm)⟩,
      ⟨g, mk, s₂, L, rfl, rfl, hqc, rfl, hL, rfl, rfl⟩, ?_⟩
    show Steps p.tables e below _ ((({ U with heap := s₂.heap, slotsUsed := s₂.slotsUsed } : State).setVm s₂.vm).setTop { g with pc := g.pc + len₂, stack := v.toList ++ g.stack })
    rw [← hs₂]
    exact hsteps
  · obtain ⟨e2, q2, q3, q4, q5, q6⟩ := id hsm
    have e3 : s₂ = ({ (U.calling g mk a).setFrames s₂.frames with heap := s₂.heap, slotsUsed := s₂.slotsUsed } : State).setVm s₂.vm := by
      have : s₂ = ({ s₂ with vm := (U.calling g mk a).vm } : State).setVm s₂.vm := rfl
      rw [e2] at this
      exact this
    have hf₂ : s₂.frames = .throwing q :: .java g :: U.frames.tail := hend
    have hW' : U.WarmedH s₂.vm := hW₂
    have hs₂ : s₂ = ((({ U with heap := s₂.heap, slotsUsed := s₂.slotsUsed } : State).setVm s₂.vm).setTop g).pushFrame (.throwing q) := by
      refine e3.trans ?_
      rw [hf₂, State.calling_eq h.top, State.setFrames_setFrames, State.pushFrame, State.frames_setTop _ hr', State.setTop_of_frames _ hr', State.setFrames_setFrames, hr]
      rfl
    have hsame : U.sameButNew ({ U with heap := s₂.heap, slotsUsed := s₂.slotsUsed } : State) L mc ms := by
      refine ⟨?_, q2, q3, q4, q5, q6⟩
      obtain ⟨t, ht, -⟩ := State.frames_cons hr
      show ({ U with heap := s₂.heap, slotsUsed := s₂.slotsUsed } : State) = { U.setFrames U.frames with heap := s₂.heap, slotsUsed := s₂.slotsUsed }
      rw [State.setFrames_self ht]
    subst hg
    refine Or.inr ⟨q, ⟨(({ U with heap := s₂.heap, slotsUsed := s₂.slotsUsed } : State).setVm s₂.vm), Ls ++ L, c0 + mc, s0 + ms⟩,
      ⟨X.admits, X.cas, X.clock, X.frames, X.room, X.hears, X.method, X.code, (X.here.setHeapUsed s₂.heap s₂.slotsUsed).setVm hW'.alike, X.tail, State.WarmedH.trans X.warmed hW', X.limits, X.bytes, X.same.trans (hsame.setVm s.vm)⟩,
      ⟨g, mk, s₂, L, E, ce, rfl, rfl, hx, hce, hcv, hcl, rfl, hL, rfl, rfl⟩, ?_⟩
    show Steps p.tables e below _ (((({ U with heap := s₂.heap, slotsUsed := s₂.slotsUsed } : State).setVm s₂.vm).setTop g).pushFrame (.throwing q))
    rw [← hs₂]
    exact hsteps
end Payer
section Calls
variable {p : Program} {l : Launch} {e : Env} {R : Room} {s : State} {m : MethodId} {args : Array Value} {below : List Frame} {meth : Method} {c : Code} {T : State} {locs : List Loc} {cells slots : Nat}
theorem vx_callV (X : Stand p l e R s m args below meth c T locs cells slots) (hexec : p.tables.exec = Jvm.exec) {own C : String} {index : Nat} {y : MethodName} {bytes : ByteArray} {maxL : Nat} {ret : Option FieldType}
    (hown : s.vm.findClass own = some m.cls) (hlink : (Cond.methodLink own index y).before args s = true) (hinst : (Cond.instanceMethod y).before args s = true) (hsel : (Cond.selects C y y).before args s = true)
    (hcode : (Cond.code y bytes maxL ret).before args s = true) (hy : y.cls ≠ "java/lang/invoke/MethodHandle" ∧ y.cls ≠ "java/lang/invoke/VarHandle")
    {W9 : Nat} {Pre : Pt → Array Value → Prop} {Post : Pt → Array Value → Option Value → Pt → Prop} {PostX : Pt → Array Value → Addr → Pt → Prop} (hK : vx_Back l R p e below s args y 3 W9 Pre Post PostX)
    {b : Addr} {cellB : Cell} (hcell : T.heap[b]? = some cellB) (hobj : cellB.vm.isStatics = false) (hcls : s.vm.findClass C = some cellB.cls)
    {g : JFrame} (hg : g.method = m) (hsize : g.locals.size = c.maxLocals) {argsL rest : List Value} (hlen : ∀ sig, parseMethodDescriptor y.desc = some sig → argsL.length = sig.parameters.length)
    (hstack : g.stack = argsL.reverse ++ .ref b :: rest) (hW : 2 * g.monitorRoom + (rest.map fun v => v.category).sum ≤ W9) (hdg : decode c.code g.pc = .ok (.invokevirtual index, 3))
    (hpre : ∀ vm₁, s.WarmedH vm₁ → Pre ⟨T.setVm vm₁, locs, cells, slots⟩ (Value.ref b :: argsL).toArray) :
    (∃ (v : Option Value) (vm₁ : Vm) (B : Pt), s.WarmedH vm₁ ∧ Stand p l e R s m args below meth c B.U B.locs B.cells B.slots ∧ Post ⟨T.setVm vm₁, locs, cells, slots⟩ (Value.ref b :: argsL).toArray v B ∧
      ∀ target, Steps p.tables e below (B.U.setTop { g with pc := g.pc + 3, stack := v.toList ++ rest }) target → Steps p.tables e below (T.setTop g) target) ∨
    (∃ (q : Addr) (vm₁ : Vm) (B : Pt), s.WarmedH vm₁ ∧ Stand p l e R s m args below meth c B.U B.locs B.cells B.slots ∧ PostX ⟨T.setVm vm₁, locs, cells, slots⟩ (Value.ref b :: argsL).toArray q B ∧
      Steps p.tables e below (T.setTop g) ((B.U.setTop { g with stack := rest }).pushFrame (.throwing q))) := by
  obtain ⟨mk, methM, hnamed, hmethM, hstM, habM⟩ := Cond.instanceMethod_spec hinst
  obtain ⟨methM', cM, hmethM', -, -, -, -, -, -, hsigM⟩ := Cond.code_spec hnamed hcode
  cases hmethM.symm.trans hmethM'
  obtain ⟨c2, r2, m2, q1, q2, q3, q4, kP, hkP, hkPi⟩ := Cond.selects_spec hsel
  cases hcls.symm.trans q1
  cases (State.methodFound?_of_named hnamed hy).symm.trans q2
  cases hnamed.symm.trans q3
  have hselP : selectMethod e.platform s.vm cellB.cls mk = .method mk := by rw [Launch.admits_selectMethod X.admits]; exact q4
  obtain ⟨vm₁, X₁, hstep₁⟩ := X.invokevirtual hexec hown hlink hnamed hmethM hstM hkP hkPi hy (a := b) (cell := cellB) hcell
    (fun z h => by rw [h] at hobj; cases hobj) hselP hmethM habM hkP hkPi (g := g) hg (argsL := argsL) (rest := rest) (hlen _ hsigM) hstack hdg
  rcases hK m meth c ⟨T.setVm vm₁, locs, cells, slots⟩ { g with stack := rest } (.invokevirtual index) mk (Value.ref b :: argsL).toArray X₁ hg hsize hdg hW (X₁.named hnamed) (hpre vm₁ X₁.warmed) with ⟨v, B, X', hpost, hsteps⟩ | ⟨q, B, X', hpost, hsteps⟩
  · exact Or.inl ⟨v, vm₁, B, X₁.warmed, X', hpost, fun target h => hstep₁ _ fun acts => by rw [doInvoke_state]; exact hsteps.trans h⟩
  · exact Or.inr ⟨q, vm₁, B, X₁.warmed, X', hpost, hstep₁ _ fun acts => by rw [doInvoke_state]; exact hsteps⟩
theorem vx_callS (X : Stand p l e R s m args below meth c T locs cells slots) (hexec : p.tables.exec = Jvm.exec) {own : String} {index : Nat} {y : MethodName} {bytes : ByteArray} {maxL : Nat} {ret : Option FieldType}
    (hown : s.vm.findClass own = some m.cls) (hlink : (Cond.methodLink own index y).before args s = true) (hstat : (Cond.static y).before args s = true) (hinit : (Cond.initialized y.cls).before args s = true)
    (hcode : (Cond.code y bytes maxL ret).before args s = true) (hy : y.cls ≠ "java/lang/invoke/MethodHandle" ∧ y.cls ≠ "java/lang/invoke/VarHandle")
    {W9 : Nat} {Pre : Pt → Array Value → Prop} {Post : Pt → Array Value → Option Value → Pt → Prop} {PostX : Pt → Array Value → Addr → Pt → Prop} (hK : vx_Back l R p e below s args y 3 W9 Pre Post PostX)
    {g : JFrame} (hg : g.method = m) (hsize : g.locals.size = c.maxLocals) {argsL rest : List Value} (hlen : ∀ sig, parseMethodDescriptor y.desc = some sig → argsL.length = sig.parameters.length)
    (hstack : g.stack = argsL.reverse ++ rest) (hW : 2 * g.monitorRoom + (rest.map fun v => v.category).sum ≤ W9) (hdg : decode c.code g.pc = .ok (.invokestatic index, 3))
    (hpre : ∀ vm₁, s.WarmedH vm₁ → Pre ⟨T.setVm vm₁, locs, cells, slots⟩ argsL.toArray) :
    (∃ (v : Option Value) (vm₁ : Vm) (B : Pt), s.WarmedH vm₁ ∧ Stand p l e R s m args below meth c B.U B.locs B.cells B.slots ∧ Post ⟨T.setVm vm₁, locs, cells, slots⟩ argsL.toArray v B ∧
      ∀ target, Steps p.tables e below (B.U.setTop { g with pc := g.pc + 3, stack := v.toList ++ rest }) target → Steps p.tables e below (T.setTop g) target) ∨
    (∃ (q : Addr) (vm₁ : Vm) (B : Pt), s.WarmedH vm₁ ∧ Stand p l e R s m args below meth c B.U B.locs B.cells B.slots ∧ PostX ⟨T.setVm vm₁, locs, cells, slots⟩ argsL.toArray q B ∧
      Steps p.tables e below (T.setTop g) ((B.U.setTop { g with stack := rest }).pushFrame (.throwing q))) := by
  obtain ⟨mk, hnamed⟩ := Cond.code_named hcode
  obtain ⟨methM, cM, hmethM, -, -, -, -, -, -, hsigM⟩ := Cond.code_spec hnamed hcode
  have hstatic : methM.isStatic = true := Cond.static_spec hnamed hmethM hstat
  obtain ⟨kP, hkP, -⟩ := className_of_methodNamed hnamed
  have hinitP : kP.init = .initialized := Cond.initialized_spec (findClass_of_methodNamed hnamed) hkP hinit
  obtain ⟨vm₁, X₁, hstep₁⟩ := X.invokestatic hexec hown hlink hnamed hmethM hstatic hkP hinitP hy (g := g) hg (argsL := argsL) (rest := rest) (hlen _ hsigM) hstack hdg
  rcases hK m meth c ⟨T.setVm vm₁, locs, cells, slots⟩ { g with stack := rest } (.invokestatic index) mk argsL.toArray X₁ hg hsize hdg hW (X₁.named hnamed) (hpre vm₁ X₁.warmed) with ⟨v, B, X', hpost, hsteps⟩ | ⟨q, B, X', hpost, hsteps⟩
  · exact Or.inl ⟨v, vm₁, B, X₁.warmed, X', hpost, fun target h => hstep₁ _ fun acts => by rw [doInvoke_state]; exact hsteps.trans h⟩
  · exact Or.inr ⟨q, vm₁, B, X₁.warmed, X', hpost, hstep₁ _ fun acts => by rw [doInvoke_state]; exact hsteps⟩
end Calls
theorem vx_cls {s : State} {T : State} {vm₁ : Vm} {E : String} {k : ClassId} (hW : s.WarmedH vm₁) (h : (T.setVm vm₁).vm.findClass E = some k) : s.vm.findClass E = some k := by
  have h1 : vm₁.findClass E = some k := h
  rw [hW.alike.findClass] at h1
  exact h1
/-- the method's frame g, with q thrown over it -/
def vx_W (p : Program) (l : Launch) (e : Env) (R : Room) (s : State) (m : MethodId) (args : Array Value) (below : List Frame) (meth : Method) (c : Code) (H : Heap) (locs : List Loc) (cells slots : Nat) (Q : State → Prop) (g : JFrame) (q : Addr) : Prop :=
  ∀ T : State, T.heap = H → Stand p l e R s m args below meth c T locs cells slots → ∃ t, Steps p.tables e below ((T.setTop g).pushFrame (.throwing q)) t ∧ Q t
def vx_Run (p : Program) (l : Launch) (e : Env) (R : Room) (s : State) (m : MethodId) (args : Array Value) (below : List Frame) (meth : Method) (c : Code) (H : Heap) (locs : List Loc) (cells slots mc ms : Nat) (g : JFrame) (rest : List Value) (Qa : State → Outcome → State → Prop) (XC : String → State → State → Prop) (free : Addr → Prop) : Prop :=
  ∀ T : State, T.heap = H → Stand p l e R s m args below meth c T locs cells slots →
    (∃ (v : Option Value) (st₀ t T' : State) (L : List Loc), st₀.heap = H ∧ Stand p l e R s m args below meth c T' (locs ++ L) (cells + mc) (slots + ms) ∧ (∀ q ∈ L, free q.base) ∧ T'.heap = t.heap ∧ T'.vm = t.vm ∧ Qa st₀ (.returned v) t ∧
      Goes p e below T g T' { g with pc := g.pc + 3, stack := v.toList ++ rest }) ∨
    (∃ (q : Addr) (st₀ t T' : State) (L : List Loc) (E : String) (ce : Cell), st₀.heap = H ∧ Stand p l e R s m args below meth c T' (locs ++ L) (cells + mc) (slots + ms) ∧ (∀ z ∈ L, free z.base) ∧ T'.heap = t.heap ∧ T'.vm = t.vm ∧ XC E st₀ t ∧ t.heap[q]? = some ce ∧ ce.vm = .none ∧ s.vm.findClass E = some ce.cls ∧
      Steps p.tables e below (T.setTop g) ((T'.setTop { g with stack := rest }).pushFrame (.throwing q)))
def vx_X {S : Type} (px : S → Prop) (B : String → S → State → Prop) (A : Nat → Prop) : String → State → State → Prop := fun E st t => ∃ u : S, px u ∧ B E u t ∧ va_F A st t
section Runs
variable {p : Program} {l : Launch} {e : Env} {R : Room} {s : State} {m : MethodId} {args : Array Value} {below : List Frame} {meth : Method} {c : Code} {H : Heap} {locs : List Loc} {cells slots : Nat}
variable {y : MethodName} {bytes cc : ByteArray} {maxL nL mc ms n index : Nat} {ret : Option FieldType} {ws : List Cond} {rm : Room} {Pc : Array Value → State → Prop} {Qc : Array Value → State → Outcome → State → Prop} {XC : String → State → State → Prop} {free : Addr → Prop} {Ts : List Cond} {own C : String} {b : Addr} {As rest : List Value} {g : JFrame}
theorem vx_callBack (cb : CallB R s args own index y bytes maxL ret ws rm mc ms n) (hM : vx_Met l y ws rm Pc Qc XC mc ms free) (hbl : FrameBlind Pc) : vx_Back l R p e below s args y 3 8 (PreOf R mc ms Pc) (PostOf Qc mc ms free) (vx_Post XC mc ms free) := by
  obtain ⟨hrc, hrs, hfr, hlo, hws, hcw, -, hini, -⟩ := cb
  exact vx_back (bytes := bytes) (maxL := maxL) (ret := ret) hM hbl hrc hrs hfr hlo hws hcw (fun a' U hW => word_at hW (Or.inl (by first | rfl | simp [Cond.onTables, Cond.keeps, Cond.steady])) hini)
theorem vx_runV (S : CallFix p m c cc nL s args Ts own) (hM : vx_Met l y ws rm Pc Qc XC mc ms free) (cw : CallW R s args own C index y bytes maxL ret ws rm mc ms n) (hp : PreV s H C b Pc As)
    (hg : g.method = m) (hn : As.length = n) (hsize : g.locals.size = nL) (hstack : g.stack = As.reverse ++ .ref b :: rest) (hW : 2 * g.monitorRoom + (rest.map fun v => v.category).sum ≤ 8) (hdg : decode cc g.pc = .ok (.invokevirtual index, 3)) (hf : cells + mc ≤ R.cells ∧ slots + ms ≤ R.slots) :
    vx_Run p l e R s m args below meth c H locs cells slots mc ms g rest (Qc (Value.ref b :: As).toArray) XC free := by
  have hK : vx_Back l R p e below s args y 3 8 (PreOf R mc ms Pc) (PostOf Qc mc ms free) (vx_Post XC mc ms free) := vx_callBack cw.1 hM hp.1
  obtain ⟨⟨-, -, -, -, -, -, hcode, -, hy, hlen, hl⟩, hin, hse⟩ := cw
  obtain ⟨hx, hb, hml, ho, -⟩ := S
  obtain ⟨-, ⟨cellB, hcB, hoB, hclB⟩, hPc⟩ := hp
  intro T hT X
  rcases vx_callV X hx (C := C) (bytes := bytes) (maxL := maxL) (ret := ret) ho hl hin hse hcode hy hK (by rw [hT]; exact hcB) hoB hclB hg (hsize.trans hml.symm) (argsL := As) (rest := rest) (fun sig h => hn.trans (hlen sig h)) hstack hW (by rw [hb]; exact hdg)
    (fun vm₁ hW₁ => ⟨hf.1, hf.2, hPc (T.setVm vm₁) hT hW₁⟩) with ⟨v, vm₁, ⟨U', l2, c2, s2⟩, hW₁, X', ⟨g', mk, t, L, e1, e2, hq, h1, hL, h2, h3⟩, st⟩ | ⟨q, vm₁, ⟨U', l2, c2, s2⟩, hW₁, X', ⟨g', mk, t, L, E, ce, e1, e2, hq, hce, hcv, hcl, h1, hL, h2, h3⟩, st⟩
  · dsimp only [Pt.U, Pt.locs, Pt.cells, Pt.slots] at X' e1 e2 h1 h2 h3 st
    subst h1; subst h2; subst h3
    exact Or.inl ⟨v, (T.setVm vm₁).calling g' mk (Value.ref b :: As).toArray, t, U', L, hT, X', hL, e1, e2, hq, st⟩
  · dsimp only [Pt.U, Pt.locs, Pt.cells, Pt.slots] at X' e1 e2 h1 h2 h3 st hcl
    subst h1; subst h2; subst h3
    exact Or.inr ⟨q, (T.setVm vm₁).calling g' mk (Value.ref b :: As).toArray, t, U', L, E, ce, hT, X', hL, e1, e2, hq, hce, hcv, vx_cls hW₁ hcl, st⟩
theorem vx_runS (S : CallFix p m c cc nL s args Ts own) (hM : vx_Met l y ws rm Pc Qc XC mc ms free) (cw : CallB R s args own index y bytes maxL ret ws rm mc ms n ∧ (Cond.static y).before args s = true) (hp : PreS s H Pc As)
    (hg : g.method = m) (hn : As.length = n) (hsize : g.locals.size = nL) (hstack : g.stack = As.reverse ++ rest) (hW : 2 * g.monitorRoom + (rest.map fun v => v.category).sum ≤ 8) (hdg : decode cc g.pc = .ok (.invokestatic index, 3)) (hf : cells + mc ≤ R.cells ∧ slots + ms ≤ R.slots) :
    vx_Run p l e R s m args below meth c H locs cells slots mc ms g rest (Qc As.toArray) XC free := by
  have hK : vx_Back l R p e below s args y 3 8 (PreOf R mc ms Pc) (PostOf Qc mc ms free) (vx_Post XC mc ms free) := vx_callBack cw.1 hM hp.1
  obtain ⟨⟨-, -, -, -, -, -, hcode, hini, hy, hlen, hl⟩, hstt⟩ := cw
  obtain ⟨hx, hb, hml, ho, -⟩ := S
  intro T hT X
  rcases vx_callS X hx (bytes := bytes) (maxL := maxL) (ret := ret) ho hl hstt hini hcode hy hK hg (hsize.trans hml.symm) (argsL := As) (rest := rest) (fun sig h => hn.trans (hlen sig h)) hstack hW (by rw [hb]; exact hdg)
    (fun vm₁ hW₁ => ⟨hf.1, hf.2, hp.2 (T.setVm vm₁) hT hW₁⟩) with ⟨v, vm₁, ⟨U', l2, c2, s2⟩, hW₁, X', ⟨g', mk, t, L, e1, e2, hq, h1, hL, h2, h3⟩, st⟩ | ⟨q, vm₁, ⟨U', l2, c2, s2⟩, hW₁, X', ⟨g', mk, t, L, E, ce, e1, e2, hq, hce, hcv, hcl, h1, hL, h2, h3⟩, st⟩
  · dsimp only [Pt.U, Pt.locs, Pt.cells, Pt.slots] at X' e1 e2 h1 h2 h3 st
    subst h1; subst h2; subst h3
    exact Or.inl ⟨v, (T.setVm vm₁).calling g' mk As.toArray, t, U', L, hT, X', hL, e1, e2, hq, st⟩
  · dsimp only [Pt.U, Pt.locs, Pt.cells, Pt.slots] at X' e1 e2 h1 h2 h3 st hcl
    subst h1; subst h2; subst h3
    exact Or.inr ⟨q, (T.setVm vm₁).calling g' mk As.toArray, t, U', L, E, ce, hT, X', hL, e1, e2, hq, hce, hcv, vx_cls hW₁ hcl, st⟩
end Runs
section Rows
variable {p : Program} {l : Launch} {e : Env} {R : Room} {s : State} {m : MethodId} {args : Array Value} {below : List Frame} {meth : Method} {c : Code} {H : Heap} {locs : List Loc} {cells slots : Nat} {Q : State → Prop}
variable {mc ms : Nat} {free : Addr → Prop} {A0 A1 : Nat → Prop} {H0 : Heap} {a : Array Value} {pc : Nat} {ls : Array Slot} {st0 rest : List Value}
theorem vx_keep {st₀ t T' : State} {L : List Loc} (h0 : st₀.heap = H) (e1 : T'.heap = t.heap) (hS : va_S A0 H0 H locs) (hA : ∀ q, q < H.size → A1 q → A0 q) (hf : ∀ q, free q → A0 q) (hL : ∀ q ∈ L, free q.base) (hF : va_F A1 st₀ t) :
    H.size ≤ T'.heap.size ∧ (∀ q : Nat, q < H.size → ¬ A1 q → T'.heap[q]? = H[q]?) ∧ va_S A0 H0 T'.heap (locs ++ L) := by
  obtain ⟨hz, hk⟩ := hF
  rw [h0] at hz hk
  exact ⟨by rw [e1]; exact hz, fun q h1 h2 => by rw [e1]; exact hk q h1 h2,
    ⟨Nat.le_trans hS.1 (by rw [e1]; exact hz), fun q h1 h2 => by rw [e1, hk q (Nat.lt_of_lt_of_le h1 hS.1) (fun z => h2 (hA q (Nat.lt_of_lt_of_le h1 hS.1) z))]; exact hS.2.1 q h1 h2, fun q hq => by
      rcases List.mem_append.mp hq with h | h
      · exact hS.2.2 q h
      · exact hf _ (hL q h)⟩⟩
theorem vx_calli {S SX : Type} {post : Int32 → S → Prop} {px : SX → Prop} {B : S → State → Prop} {BX : String → SX → State → Prop} {AX : Nat → Prop} (hr : vx_Run p l e R s m args below meth c H locs cells slots mc ms (F0 m pc ls st0) rest (va_Qi post B A1 a) (vx_X px BX AX) free) (hS : va_S A0 H0 H locs) (hA : ∀ q, q < H.size → A1 q → A0 q) (hf : ∀ q, free q → A0 q) (hAX : ∀ q, q < H.size → AX q → A0 q)
    (kx : ∀ (E : String) (ce : Cell) (q9 : Addr) (u : SX) (t : State) (H1 : Heap) (locs1 : List Loc), t.heap = H1 → s.vm.Alike t.vm → px u → BX E u t → H.size ≤ H1.size → (∀ q : Nat, q < H.size → ¬ AX q → H1[q]? = H[q]?) → va_S A0 H0 H1 locs1 → H1[q9]? = some ce → ce.vm = .none → s.vm.findClass E = some ce.cls → vx_W p l e R s m args below meth c H1 locs1 (cells + mc) (slots + ms) Q (F0 m pc ls rest) q9)
    (kk : ∀ (r : Int32) (u : S) (t : State) (H1 : Heap) (locs1 : List Loc), t.heap = H1 → s.vm.Alike t.vm → post r u → B u t → H.size ≤ H1.size → (∀ q : Nat, q < H.size → ¬ A1 q → H1[q]? = H[q]?) → va_S A0 H0 H1 locs1 → W p l e R s m args below meth c H1 locs1 (cells + mc) (slots + ms) Q (F0 m (pc + 3) ls (.int r :: rest))) : W p l e R s m args below meth c H locs cells slots Q (F0 m pc ls st0) := by
  intro T hT X
  rcases hr T hT X with ⟨v, st₀, t, T', L, h0, X', hL, e1, e2, ⟨⟨r, u, hv, hp, hb⟩, hF⟩, st⟩ | ⟨q, st₀, t, T', L, E, ce, h0, X', hL, e1, e2, ⟨u, hp, hb, hF⟩, hce, hcv, hcl, st⟩
  · cases hv
    obtain ⟨k1, k2, k3⟩ := vx_keep h0 e1 hS hA hf hL hF
    obtain ⟨t2, a1, b1⟩ := kk r u t T'.heap (locs ++ L) e1.symm (by rw [← e2]; exact X'.warmed.alike) hp hb k1 k2 k3 T' rfl X'
    exact ⟨t2, st t2 a1, b1⟩
  · obtain ⟨k1, k2, k3⟩ := vx_keep h0 e1 hS hAX hf hL hF
    obtain ⟨t2, a1, b1⟩ := kx E ce q u t T'.heap (locs ++ L) e1.symm (by rw [← e2]; exact X'.warmed.alike) hp hb k1 k2 k3 (by rw [e1]; exact hce) hcv hcl T' rfl X'
    exact ⟨t2, st.trans a1, b1⟩
theorem vx_calll {S SX : Type} {post : Int64 → S → Prop} {px : SX → Prop} {B : S → State → Prop} {BX : String → SX → State → Prop} {AX : Nat → Prop} (hr : vx_Run p l e R s m args below meth c H locs cells slots mc ms (F0 m pc ls st0) rest (va_Ql post B A1 a) (vx_X px BX AX) free) (hS : va_S A0 H0 H locs) (hA : ∀ q, q < H.size → A1 q → A0 q) (hf : ∀ q, free q → A0 q) (hAX : ∀ q, q < H.size → AX q → A0 q)
    (kx : ∀ (E : String) (ce : Cell) (q9 : Addr) (u : SX) (t : State) (H1 : Heap) (locs1 : List Loc), t.heap = H1 → s.vm.Alike t.vm → px u → BX E u t → H.size ≤ H1.size → (∀ q : Nat, q < H.size → ¬ AX q → H1[q]? = H[q]?) → va_S A0 H0 H1 locs1 → H1[q9]? = some ce → ce.vm = .none → s.vm.findClass E = some ce.cls → vx_W p l e R s m args below meth c H1 locs1 (cells + mc) (slots + ms) Q (F0 m pc ls rest) q9)
    (kk : ∀ (r : Int64) (u : S) (t : State) (H1 : Heap) (locs1 : List Loc), t.heap = H1 → s.vm.Alike t.vm → post r u → B u t → H.size ≤ H1.size → (∀ q : Nat, q < H.size → ¬ A1 q → H1[q]? = H[q]?) → va_S A0 H0 H1 locs1 → W p l e R s m args below meth c H1 locs1 (cells + mc) (slots + ms) Q (F0 m (pc + 3) ls (.long r :: rest))) : W p l e R s m args below meth c H locs cells slots Q (F0 m pc ls st0) := by
  intro T hT X
  rcases hr T hT X with ⟨v, st₀, t, T', L, h0, X', hL, e1, e2, ⟨⟨r, u, hv, hp, hb⟩, hF⟩, st⟩ | ⟨q, st₀, t, T', L, E, ce, h0, X', hL, e1, e2, ⟨u, hp, hb, hF⟩, hce, hcv, hcl, st⟩
  · cases hv
    obtain ⟨k1, k2, k3⟩ := vx_keep h0 e1 hS hA hf hL hF
    obtain ⟨t2, a1, b1⟩ := kk r u t T'.heap (locs ++ L) e1.symm (by rw [← e2]; exact X'.warmed.alike) hp hb k1 k2 k3 T' rfl X'
    exact ⟨t2, st t2 a1, b1⟩
  · obtain ⟨k1, k2, k3⟩ := vx_keep h0 e1 hS hAX hf hL hF
    obtain ⟨t2, a1, b1⟩ := kx E ce q u t T'.heap (locs ++ L) e1.symm (by rw [← e2]; exact X'.warmed.alike) hp hb k1 k2 k3 (by rw [e1]; exact hce) hcv hcl T' rfl X'
    exact ⟨t2, st.trans a1, b1⟩
theorem vx_callf {S SX : Type} {post : UInt32 → S → Prop} {px : SX → Prop} {B : S → State → Prop} {BX : String → SX → State → Prop} {AX : Nat → Prop} (hr : vx_Run p l e R s m args below meth c H locs cells slots mc ms (F0 m pc ls st0) rest (va_Qf post B A1 a) (vx_X px BX AX) free) (hS : va_S A0 H0 H locs) (hA : ∀ q, q < H.size → A1 q → A0 q) (hf : ∀ q, free q → A0 q) (hAX : ∀ q, q < H.size → AX q → A0 q)
    (kx : ∀ (E : String) (ce : Cell) (q9 : Addr) (u : SX) (t : State) (H1 : Heap) (locs1 : List Loc), t.heap = H1 → s.vm.Alike t.vm → px u → BX E u t → H.size ≤ H1.size → (∀ q : Nat, q < H.size → ¬ AX q → H1[q]? = H[q]?) → va_S A0 H0 H1 locs1 → H1[q9]? = some ce → ce.vm = .none → s.vm.findClass E = some ce.cls → vx_W p l e R s m args below meth c H1 locs1 (cells + mc) (slots + ms) Q (F0 m pc ls rest) q9)
    (kk : ∀ (r : UInt32) (u : S) (t : State) (H1 : Heap) (locs1 : List Loc), t.heap = H1 → s.vm.Alike t.vm → post r u → B u t → H.size ≤ H1.size → (∀ q : Nat, q < H.size → ¬ A1 q → H1[q]? = H[q]?) → va_S A0 H0 H1 locs1 → W p l e R s m args below meth c H1 locs1 (cells + mc) (slots + ms) Q (F0 m (pc + 3) ls (.float r :: rest))) : W p l e R s m args below meth c H locs cells slots Q (F0 m pc ls st0) := by
  intro T hT X
  rcases hr T hT X with ⟨v, st₀, t, T', L, h0, X', hL, e1, e2, ⟨⟨r, u, hv, hp, hb⟩, hF⟩, st⟩ | ⟨q, st₀, t, T', L, E, ce, h0, X', hL, e1, e2, ⟨u, hp, hb, hF⟩, hce, hcv, hcl, st⟩
  · cases hv
    obtain ⟨k1, k2, k3⟩ := vx_keep h0 e1 hS hA hf hL hF
    obtain ⟨t2, a1, b1⟩ := kk r u t T'.heap (locs ++ L) e1.symm (by rw [← e2]; exact X'.warmed.alike) hp hb k1 k2 k3 T' rfl X'
    exact ⟨t2, st t2 a1, b1⟩
  · obtain ⟨k1, k2, k3⟩ := vx_keep h0 e1 hS hAX hf hL hF
    obtain ⟨t2, a1, b1⟩ := kx E ce q u t T'.heap (locs ++ L) e1.symm (by rw [← e2]; exact X'.warmed.alike) hp hb k1 k2 k3 (by rw [e1]; exact hce) hcv hcl T' rfl X'
    exact ⟨t2, st.trans a1, b1⟩
theorem vx_calld {S SX : Type} {post : UInt64 → S → Prop} {px : SX → Prop} {B : S → State → Prop} {BX : String → SX → State → Prop} {AX : Nat → Prop} (hr : vx_Run p l e R s m args below meth c H locs cells slots mc ms (F0 m pc ls st0) rest (va_Qd post B A1 a) (vx_X px BX AX) free) (hS : va_S A0 H0 H locs) (hA : ∀ q, q < H.size → A1 q → A0 q) (hf : ∀ q, free q → A0 q) (hAX : ∀ q, q < H.size → AX q → A0 q)
    (kx : ∀ (E : String) (ce : Cell) (q9 : Addr) (u : SX) (t : State) (H1 : Heap) (locs1 : List Loc), t.heap = H1 → s.vm.Alike t.vm → px u → BX E u t → H.size ≤ H1.size → (∀ q : Nat, q < H.size → ¬ AX q → H1[q]? = H[q]?) → va_S A0 H0 H1 locs1 → H1[q9]? = some ce → ce.vm = .none → s.vm.findClass E = some ce.cls → vx_W p l e R s m args below meth c H1 locs1 (cells + mc) (slots + ms) Q (F0 m pc ls rest) q9)
    (kk : ∀ (r : UInt64) (u : S) (t : State) (H1 : Heap) (locs1 : List Loc), t.heap = H1 → s.vm.Alike t.vm → post r u → B u t → H.size ≤ H1.size → (∀ q : Nat, q < H.size → ¬ A1 q → H1[q]? = H[q]?) → va_S A0 H0 H1 locs1 → W p l e R s m args below meth c H1 locs1 (cells + mc) (slots + ms) Q (F0 m (pc + 3) ls (.double r :: rest))) : W p l e R s m args below meth c H locs cells slots Q (F0 m pc ls st0) := by
  intro T hT X
  rcases hr T hT X with ⟨v, st₀, t, T', L, h0, X', hL, e1, e2, ⟨⟨r, u, hv, hp, hb⟩, hF⟩, st⟩ | ⟨q, st₀, t, T', L, E, ce, h0, X', hL, e1, e2, ⟨u, hp, hb, hF⟩, hce, hcv, hcl, st⟩
  · cases hv
    obtain ⟨k1, k2, k3⟩ := vx_keep h0 e1 hS hA hf hL hF
    obtain ⟨t2, a1, b1⟩ := kk r u t T'.heap (locs ++ L) e1.symm (by rw [← e2]; exact X'.warmed.alike) hp hb k1 k2 k3 T' rfl X'
    exact ⟨t2, st t2 a1, b1⟩
  · obtain ⟨k1, k2, k3⟩ := vx_keep h0 e1 hS hAX hf hL hF
    obtain ⟨t2, a1, b1⟩ := kx E ce q u t T'.heap (locs ++ L) e1.symm (by rw [← e2]; exact X'.warmed.alike) hp hb k1 k2 k3 (by rw [e1]; exact hce) hcv hcl T' rfl X'
    exact ⟨t2, st.trans a1, b1⟩
theorem vx_callv {S SX : Type} {post : S → Prop} {px : SX → Prop} {B : S → State → Prop} {BX : String → SX → State → Prop} {AX : Nat → Prop} (hr : vx_Run p l e R s m args below meth c H locs cells slots mc ms (F0 m pc ls st0) rest (va_Qv post B A1 a) (vx_X px BX AX) free) (hS : va_S A0 H0 H locs) (hA : ∀ q, q < H.size → A1 q → A0 q) (hf : ∀ q, free q → A0 q) (hAX : ∀ q, q < H.size → AX q → A0 q)
    (kx : ∀ (E : String) (ce : Cell) (q9 : Addr) (u : SX) (t : State) (H1 : Heap) (locs1 : List Loc), t.heap = H1 → s.vm.Alike t.vm → px u → BX E u t → H.size ≤ H1.size → (∀ q : Nat, q < H.size → ¬ AX q → H1[q]? = H[q]?) → va_S A0 H0 H1 locs1 → H1[q9]? = some ce → ce.vm = .none → s.vm.findClass E = some ce.cls → vx_W p l e R s m args below meth c H1 locs1 (cells + mc) (slots + ms) Q (F0 m pc ls rest) q9)
    (kk : ∀ (u : S) (t : State) (H1 : Heap) (locs1 : List Loc), t.heap = H1 → s.vm.Alike t.vm → post u → B u t → H.size ≤ H1.size → (∀ q : Nat, q < H.size → ¬ A1 q → H1[q]? = H[q]?) → va_S A0 H0 H1 locs1 → W p l e R s m args below meth c H1 locs1 (cells + mc) (slots + ms) Q (F0 m (pc + 3) ls (rest))) : W p l e R s m args below meth c H locs cells slots Q (F0 m pc ls st0) := by
  intro T hT X
  rcases hr T hT X with ⟨v, st₀, t, T', L, h0, X', hL, e1, e2, ⟨⟨u, hv, hp, hb⟩, hF⟩, st⟩ | ⟨q, st₀, t, T', L, E, ce, h0, X', hL, e1, e2, ⟨u, hp, hb, hF⟩, hce, hcv, hcl, st⟩
  · cases hv
    obtain ⟨k1, k2, k3⟩ := vx_keep h0 e1 hS hA hf hL hF
    obtain ⟨t2, a1, b1⟩ := kk u t T'.heap (locs ++ L) e1.symm (by rw [← e2]; exact X'.warmed.alike) hp hb k1 k2 k3 T' rfl X'
    exact ⟨t2, st t2 a1, b1⟩
  · obtain ⟨k1, k2, k3⟩ := vx_keep h0 e1 hS hAX hf hL hF
    obtain ⟨t2, a1, b1⟩ := kx E ce q u t T'.heap (locs ++ L) e1.symm (by rw [← e2]; exact X'.warmed.alike) hp hb k1 k2 k3 (by rw [e1]; exact hce) hcv hcl T' rfl X'
    exact ⟨t2, st.trans a1, b1⟩
/-- caught by the row x of this method's table; the rows ahead don't take it -/
theorem vx_catch {own name : String} {E : String} {ce : Cell} {q : Addr} (hown : s.vm.findClass own = some m.cls) (pre : List ExceptionTableEntry) (x : ExceptionTableEntry) (suf : List ExceptionTableEntry) (hsplit : c.exceptionTable.toList = pre ++ x :: suf)
    (hpass : ∀ z ∈ pre, covers z pc = false ∨ (z.catchType ≠ 0 ∧ ∃ nm : String, (Cond.classLink own z.catchType nm).before args s = true ∧ va_Nc E nm s)) (hx : covers x pc = true) (h0 : x.catchType ≠ 0)
    (hlink : (Cond.classLink own x.catchType name).before args s = true) (hcast : (Cond.castable E name).before args s = true) (hcell : H[q]? = some ce) (hv : ce.vm = .none) (hcl : s.vm.findClass E = some ce.cls)
    (kk : W p l e R s m args below meth c H locs cells slots Q (F0 m x.handlerPc ls [.ref q])) : vx_W p l e R s m args below meth c H locs cells slots Q (F0 m pc ls rest) q := by
  intro T hT X
  have hpl : e.platform.magicAccessors = ({} : Platform).magicAccessors := by rw [X.admits.platform]
  obtain ⟨c3, c4, hc3, hc4, hasg⟩ := Cond.castable_spec hcast
  cases Option.some.inj (hc3.symm.trans hcl)
  obtain ⟨c5, hc5, hcl5⟩ := Cond.classLink_spec hown hlink e.platform hpl
  cases Option.some.inj (hc4.symm.trans hc5)
  obtain ⟨vm', X', st⟩ := X.thenCaughtThrough q (g := F0 m pc ls rest) rfl (Steps.refl _) (by rw [hT]; exact hcell) (by rw [hv]; rfl) (by obtain ⟨k9, h9, -⟩ := Vm.findClass_spec hcl; exact ⟨k9, h9⟩) pre x suf hsplit
    (fun z hz => by
      rcases hpass z hz with h | ⟨hz0, nm, hl1, hn1⟩
      · exact Or.inl h
      · obtain ⟨c6, hc6, hcl6⟩ := Cond.classLink_spec hown hl1 e.platform hpl
        obtain ⟨a8, b8, h1, h2, h3⟩ := hn1
        cases Option.some.inj (h1.symm.trans hcl)
        cases Option.some.inj (h2.symm.trans hc6)
        exact Or.inr ⟨hz0, _, hcl6, h3⟩) hx (Or.inr ⟨h0, c4, hcl5, hasg⟩)
  obtain ⟨t, a1, b1⟩ := kk (T.setVm vm') hT X'
  exact ⟨t, st.trans a1, b1⟩
end Rows
section Ends
variable {p : Program} {l : Launch} {e : Env} {R : Room} {s : State} {m : MethodId} {args : Array Value} {below : List Frame} {meth : Method} {c : Code} {H : Heap} {locs : List Loc} {cells slots : Nat} {Q : State → Prop}
variable {mc ms : Nat} {free : Addr → Prop} {A0 A1 : Nat → Prop} {H0 : Heap} {a : Array Value} {ls : Array Slot} {st0 rest : List Value}
variable {Qc : Array Value → State → Outcome → State → Prop} {XC : String → State → State → Prop}
/-- what a body that may throw owes at its end -/
def vx_MQ (below : List Frame) (Qc : Array Value → State → Outcome → State → Prop) (XC : String → State → State → Prop) (a : Array Value) (s : State) (mc ms : Nat) (free : Addr → Prop) : State → Prop := fun t =>
  ∃ o, t.status = .running ∧ Ended t below o ∧ vx_Q Qc XC mc ms free a s o t
theorem vx_ret {g : JFrame} {mc ms : Nat} (k : W p l e R s m args below meth c H locs cells slots (MQ below Qc args s mc ms free) g) : W p l e R s m args below meth c H locs cells slots (vx_MQ below Qc XC args s mc ms free) g := by
  intro T hT X
  obtain ⟨t, a1, o, b1, b2, b3, b4⟩ := k T hT X
  exact ⟨t, a1, o, b1, b2, Or.inl ⟨b3, b4⟩⟩
/-- not caught here: it goes on to the caller -/
theorem vx_widen {g : JFrame} {q : Addr} {k n : Nat} (h1 : cells ≤ k) (h2 : slots ≤ n) (kk : vx_W p l e R s m args below meth c H locs k n Q g q) : vx_W p l e R s m args below meth c H locs cells slots Q g q := fun T hT X => kk T hT (stand_widen X h1 h2)
theorem vx_out {pc : Nat} {E : String} {ce : Cell} {q : Addr} {mc ms : Nat} (hout : ∀ x ∈ c.exceptionTable.toList, covers x pc = false) (hlocks : meth.locks = false) (hcell : H[q]? = some ce) (hv : ce.vm = .none) (hcl : s.vm.findClass E = some ce.cls)
    (hx : ∀ t : State, t.heap = H → s.vm.Alike t.vm → XC E s t) (hf : ∀ z ∈ locs, free z.base) (hc : cells ≤ mc) (hs : slots ≤ ms) :
    vx_W p l e R s m args below meth c H locs cells slots (vx_MQ below Qc XC args s mc ms free) (F0 m pc ls rest) q := by
  intro T hT X
  obtain ⟨st1, hrun, hend, hW, hsm⟩ := X.leaveThrown q (g := F0 m pc ls rest) rfl rfl rfl hout hlocks
  have hcell9 : (T.setFrames (.throwing q :: below)).heap[q]? = some ce := by
    show T.heap[q]? = some ce
    rw [hT]; exact hcell
  exact ⟨_, st1, .threw q, hrun, hend, Or.inr ⟨q, rfl, E, ce, locs, hx _ hT hW.alike, hcell9, hv, hcl, hW, hsm.mono hc hs, hf⟩⟩
theorem vx_frame {U : State} {k n : Nat} (h : s.sameButNew ({ U with vm := s.vm } : State) locs k n) : s.heap.size ≤ U.heap.size ∧ ∀ q : Nat, q < s.heap.size → (∀ z ∈ locs, z.base ≠ q) → U.heap[q]? = s.heap[q]? := by
  obtain ⟨-, h2, -, -, -, h6⟩ := h
  refine ⟨h2, fun q hq hz => ?_⟩
  obtain ⟨c9, e1, e2, e3, e4⟩ := h6 q _ (Array.getElem?_eq_getElem hq)
  have hs : c9.slots = (s.heap[q]).slots := Array.ext_getElem? fun i => e4 i fun hm => hz _ hm rfl
  have h9 : c9 = s.heap[q] := by
    rw [hs] at e2
    exact e2
  have e5 : U.heap[q]? = some c9 := e1
  rw [e5, h9, Array.getElem?_eq_getElem hq]
/-- the words of a throw but the four that speak of the heap -/
def vx_no (w : Cond) : Bool := decide (w ≠ .isRef (.static Bundle.tN "UNASSIGNED_STACK" Bundle.steD)) && decide (w ≠ .isRef (.static Bundle.tN "SUPPRESSED_SENTINEL" Bundle.listD)) && decide (w ≠ .laysStatic Bundle.tN "UNASSIGNED_STACK" Bundle.steD) && decide (w ≠ .laysStatic Bundle.tN "SUPPRESSED_SENTINEL" Bundle.listD)
def vx_at0 (own : String) (ic : Nat) (X : String) (names : List String) : List Cond := (Bundle.ownAtoms0 own ic X names).filter vx_no
def vx_atS (own : String) (ic : Nat) (X : String) (names : List String) : List Cond := (Bundle.ownAtoms own ic X names).filter vx_no
/-- a word that the tables alone decide, or a good one -/
def vx_ot (w : Cond) : Bool := w.onTables || goodWord w
theorem vx_ot_at {args a' : Array Value} {s U : State} {w : Cond} (hW : s.WarmedH U.vm) (hvm : s.vm = U.vm) (hg : vx_ot w = true) (h : w.before args s = true) : w.before a' U = true := by
  simp only [vx_ot, Bool.or_eq_true] at hg
  rcases hg with hg | hg
  · exact va_tabs hg hvm h
  · exact word_at hW (good_of_word hg) h
/-- a list's words: the good ones out of the method's own list, the others by premises of their own -/
theorem vx_hat {args : Array Value} {s : State} {L B : List Cond} (h1 : ∀ w ∈ L.filter goodWord, w.before args s = true) (h2 : ∀ w ∈ L.filter (fun w => !goodWord w), w ∈ B) (h3 : ∀ w ∈ B, w.before args s = true) : ∀ w ∈ L, w.before args s = true := by
  intro w hw
  by_cases g : goodWord w = true
  · exact h1 w (List.mem_filter.mpr ⟨hw, g⟩)
  · refine h3 w (h2 w (List.mem_filter.mpr ⟨hw, ?_⟩))
    show (!goodWord w) = true
    cases hgw : goodWord w
    · rfl
    · exact absurd hgw g
theorem vx_c {args : Array Value} {s : State} {w : Cond} {B : List Cond} (h : w.before args s = true) (t : ∀ w ∈ B, w.before args s = true) : ∀ w' ∈ w :: B, w'.before args s = true := fun w' h' => (List.mem_cons.mp h').elim (fun e => by rw [e]; exact h) (t w')
theorem vx_n {args : Array Value} {s : State} : ∀ w ∈ ([] : List Cond), w.before args s = true := fun _ h => nomatch h
theorem vx_own {args : Array Value} {s : State} {L : List Cond} (h1 : ∀ w ∈ L.filter vx_no, w.before args s = true)
    (hU : (Cond.isRef (.static Bundle.tN "UNASSIGNED_STACK" Bundle.steD)).before args s = true) (hN : (Cond.isRef (.static Bundle.tN "SUPPRESSED_SENTINEL" Bundle.listD)).before args s = true)
    (lU : (Cond.laysStatic Bundle.tN "UNASSIGNED_STACK" Bundle.steD).before args s = true) (lN : (Cond.laysStatic Bundle.tN "SUPPRESSED_SENTINEL" Bundle.listD).before args s = true) : ∀ w ∈ L, w.before args s = true := by
  intro w hw
  by_cases e1 : w = .isRef (.static Bundle.tN "UNASSIGNED_STACK" Bundle.steD)
  · rw [e1]; exact hU
  · by_cases e2 : w = .isRef (.static Bundle.tN "SUPPRESSED_SENTINEL" Bundle.listD)
    · rw [e2]; exact hN
    · by_cases e3 : w = .laysStatic Bundle.tN "UNASSIGNED_STACK" Bundle.steD
      · rw [e3]; exact lU
      · by_cases e4 : w = .laysStatic Bundle.tN "SUPPRESSED_SENTINEL" Bundle.listD
        · rw [e4]; exact lN
        · exact h1 w (List.mem_filter.mpr ⟨hw, by unfold vx_no; rw [decide_eq_true e1, decide_eq_true e2, decide_eq_true e3, decide_eq_true e4]; rfl⟩)
/-- where a static field lies, its class's statics cell in H -/
def vx_L (C n d : String) (A : Nat → Prop) (U : State) (H : Heap) : Prop := ∃ (c : ClassId) (k : Class) (i : Nat) (f : Field) (a : Nat) (cell : Cell), U.vm.findClass C = some c ∧ U.fieldFound? C n d = some (c, k, i, f) ∧ f.isStatic = true ∧ k.statics = some a ∧ H[a]? = some cell ∧ cell.vm.isStatics = true ∧ cell.cls = c ∧ f.slot < cell.slots.size ∧ k.staticTypes[f.slot]? = some f.type ∧ ¬ A a
theorem vx_L.moved {C n d : String} {A : Nat → Prop} {u U : State} {H : Heap} (hvm : u.vm.Alike U.vm) (h : vx_L C n d A u H) : vx_L C n d A U H := by
  obtain ⟨c, k, i, f, a, cell, h1, h2, h3, h4, h5, h6, h7, h8, h9, h10⟩ := h
  obtain ⟨k', hi', he⟩ := State.fieldFound?_setVm hvm h2
  exact ⟨c, k', i, f, a, cell, by rw [hvm.findClass]; exact h1, hi', h3, by rw [he]; exact h4, h5, h6, h7, h8, by rw [he]; exact h9, h10⟩
theorem vx_L.kept {C n d : String} {A : Nat → Prop} {U : State} {H H1 : Heap} (h : vx_L C n d A U H) (hq : ∀ a : Nat, a < H.size → ¬ A a → H1[a]? = H[a]?) : vx_L C n d A U H1 := by
  obtain ⟨c, k, i, f, a, cell, h1, h2, h3, h4, h5, h6, h7, h8, h9, h10⟩ := h
  exact ⟨c, k, i, f, a, cell, h1, h2, h3, h4, by rw [hq a (Array.getElem?_eq_some_iff.mp h5).1 h10]; exact h5, h6, h7, h8, h9, h10⟩
theorem vx_L.narrow {C n d : String} {A B : Nat → Prop} {U : State} {H : Heap} (h : vx_L C n d A U H) (hAB : ∀ q, B q → A q) : vx_L C n d B U H := by
  obtain ⟨c, k, i, f, a, cell, h1, h2, h3, h4, h5, h6, h7, h8, h9, h10⟩ := h
  exact ⟨c, k, i, f, a, cell, h1, h2, h3, h4, h5, h6, h7, h8, h9, fun z => h10 (hAB _ z)⟩
theorem vx_L.word {C n d : String} {A : Nat → Prop} {s : State} {args : Array Value} (h : vx_L C n d A s s.heap) : (Cond.laysStatic C n d).before args s = true := by
  obtain ⟨c, k, i, f, a, cell, h1, h2, h3, h4, h5, h6, h7, h8, h9, -⟩ := h
  show (Cond.laysStatic C n d).holds args s none s [] = true
  exact Cond.laysStatic_of h1 h2 h3 h4 h5 h6 h7 h8 h9
/-- .. and what it holds: null or some reference -/
def vx_Zq (C n d : String) (A : Nat → Prop) (U : State) (H : Heap) : Prop := va_Zq C n d A U H ∧ vx_L C n d A U H
theorem vx_Zq.moved {C n d : String} {A : Nat → Prop} {u U : State} {H : Heap} (hvm : u.vm.Alike U.vm) (h : vx_Zq C n d A u H) : vx_Zq C n d A U H := ⟨va_Zq.moved hvm h.1, vx_L.moved hvm h.2⟩
theorem vx_Zq.kept {C n d : String} {A : Nat → Prop} {U : State} {H H1 : Heap} (h : vx_Zq C n d A U H) (hq : ∀ a : Nat, a < H.size → ¬ A a → H1[a]? = H[a]?) : vx_Zq C n d A U H1 := ⟨va_Zq.kept h.1 hq, vx_L.kept h.2 hq⟩
theorem vx_Zq.narrow {C n d : String} {A B : Nat → Prop} {U : State} {H : Heap} (h : vx_Zq C n d A U H) (hAB : ∀ q, B q → A q) : vx_Zq C n d B U H := ⟨va_Zq.narrow h.1 hAB, vx_L.narrow h.2 hAB⟩
theorem vx_Zqof {args : Array Value} {s : State} {C n d : String} {A : Nat → Prop} (hl : (Cond.laysStatic C n d).before args s = true) (hini : (Cond.initialized C).before args s = true) (h : (Cond.isRef (.static C n d)).before args s = true) (hA : ∀ a : Nat, a < s.heap.size → ¬ A a) : vx_Zq C n d A s s.heap := by
  refine ⟨va_Zqof hl hini h hA, ?_⟩
  obtain ⟨c, k, i, f, a, cell, h1, h2, h3, h4, h5, h6, h7, h8, h9⟩ := Cond.laysStatic_spec hl
  exact ⟨c, k, i, f, a, cell, h1, h2, h3, h4, h5, h6, h7, h8, h9, hA a (Array.getElem?_eq_some_iff.mp h5).1⟩
theorem vx_isRef {C n d : String} {v : Value} {A : Nat → Prop} {s : State} {args : Array Value} (h : va_Z C n d v A s s.heap) (hv : v.isRef = true) : (Cond.isRef (.static C n d)).before args s = true := by
  obtain ⟨cf, kf, fi, f, a, cell, h1, h2, h3, h4, h5, h6, h7, -⟩ := h
  have he : (Term.static C n d).eval args s none [] s = some v := by
    simp [Term.eval, State.fieldNamed?, h1, h2, h4, h5, h6, h7]
  simp only [Cond.before, Cond.holds, Cond.value, he]
  cases v <;> simp_all [Value.isRef]
theorem vx_isRefq {C n d : String} {A : Nat → Prop} {s : State} {args : Array Value} (h : va_Zq C n d A s s.heap) : (Cond.isRef (.static C n d)).before args s = true := by
  rcases h with h | ⟨t, h⟩
  · exact vx_isRef h rfl
  · exact vx_isRef h rfl
/-- the same frame, seen from here: as if the method were called anew in this heap -/
theorem vx_rebase {T : State} (X : Stand p l e R s m args below meth c T locs cells slots) {R' : Room} (hf : R'.frames ≤ R.frames) (hl : R'.locals ≤ R.locals) (hc : cells + R'.cells ≤ R.cells) (hs : slots + R'.slots ≤ R.slots) :
    Stand p l e R' ((T.setVm s.vm).setFrames (.invoking m args :: below)) m args below meth c T [] 0 0 := by
  have htop : (T.setVm s.vm).topJava?.isSome := X.here.top
  have hF : ((T.setVm s.vm).setFrames (.invoking m args :: below)).frames = .invoking m args :: below := State.frames_setFrames _ (State.cur_lt_of_top htop)
  obtain ⟨g₀, hg0⟩ := Option.isSome_iff_exists.mp htop
  obtain ⟨r, hr⟩ := State.topJava?_eq_some.mp hg0
  have hl9 : e.platform.stackLimits (T.setVm s.vm).me = e.platform.stackLimits s.me := X.limits
  have hb9 : (T.setVm s.vm).me.stackBytes = s.me.stackBytes := X.bytes
  refine ⟨X.admits, X.cas, X.clock, hF, ?_, X.hears, X.method, X.code, X.here, X.tail, X.warmed, ?_, ?_, ?_⟩
  · have h := X.room
    have hU : ((T.setVm s.vm).setFrames (.invoking m args :: below)).localsInUse = s.localsInUse := by
      rw [State.localsInUse_invoking hF (meth := meth) (c := c) X.method X.code, State.localsInUse_invoking X.frames X.method X.code]
    simp only [State.hasRoom, Bool.and_eq_true, decide_eq_true_eq] at h ⊢
    obtain ⟨⟨⟨⟨h1, h2, h3, h4, h5, h6⟩, h7⟩, h8⟩, h9⟩ := h
    rw [X.frames, List.length_cons] at h2 h3
    have q1 := X.heapSize
    have q2 := X.used
    simp only [hF, hU, List.length_cons, State.stackLimits_setFrames, State.stackBytes_setFrames, hl9, hb9]
    refine ⟨⟨⟨⟨by omega, by omega, by omega, by omega, by omega, h6⟩, ?_⟩, ?_⟩, X.book⟩
    · show T.heap.size + R'.cells ≤ e.platform.maxCells
      omega
    · show T.slotsUsed + R'.slots ≤ e.platform.maxSlots
      omega
  · rw [State.stackLimits_setFrames]; rfl
  · rw [State.stackBytes_setFrames]; rfl
  · refine ⟨?_, Nat.le_refl _, Nat.le_refl _, ?_, ?_, fun a c9 h9 => ⟨c9, h9, rfl, rfl, fun _ _ => rfl⟩⟩
    · obtain ⟨t, ht, -⟩ := State.frames_cons hr
      show T.setVm s.vm = { ((T.setVm s.vm).setFrames (.invoking m args :: below)).setFrames (T.setVm s.vm).frames with heap := T.heap, slotsUsed := T.slotsUsed }
      rw [State.setFrames_setFrames, State.setFrames_self ht]
      rfl
    · show T.slotsUsed = T.slotsUsed + ((T.heap.toList.drop T.heap.size).map (·.slots.size)).sum
      rw [List.drop_eq_nil_of_le (Nat.le_of_eq Array.length_toList)]
      rfl
    · show ((T.heap.toList.drop T.heap.size).map (·.slots.size)).sum ≤ 0
      rw [List.drop_eq_nil_of_le (Nat.le_of_eq Array.length_toList)]
      exact Nat.le_refl _
/-- 'throw new E()': new; dup; invokespecial; athrow -/
theorem vx_throw0 {cc : ByteArray} {pc : Nat} (hexec : p.tables.exec = Jvm.exec) (hb : c.code = cc) (hl : l.stackTraces = false) {own cls : String} {names : List String} {ik ic mc ms : Nat} {A : Nat → Prop}
    (hown : s.vm.findClass own = some m.cls) (hcls : Bundle.fit cls = true) (hnames : ∀ n ∈ names, Bundle.fit n = true)
    (hk : (Cond.classLink own ik cls).before args s = true) (hini : (Cond.initialized cls).before args s = true) (hat : ∀ w ∈ vx_at0 own ic cls names, w.before args s = true)
    (hgood : ∀ w ∈ Cond.classLink own ik cls :: Cond.initialized cls :: vx_at0 own ic cls names, vx_ot w = true)
    (hU : vx_Zq Bundle.tN "UNASSIGNED_STACK" Bundle.steD A s s.heap) (hN : vx_Zq Bundle.tN "SUPPRESSED_SENTINEL" Bundle.listD A s s.heap) (hS : va_S A s.heap H locs) (hsize : ls.size = c.maxLocals)
    (d0 : decode cc pc = .ok (.new ik, 3)) (d3 : decode cc (pc + 3) = .ok (.dup, 1)) (d4 : decode cc (pc + 4) = .ok (.invokespecial ic, 3)) (d7 : decode cc (pc + 7) = .ok (.athrow, 1))
    (hout : ∀ x ∈ c.exceptionTable.toList, covers x (pc + 7) = false)
    (hRframes : names.length + 3 < R.frames) (hRlocals : (rest.map fun v => v.category).sum + (13 * (names.length + 1) + 42) ≤ R.locals) (hRcells : cells + 1 ≤ R.cells) (hRslots : slots + 6 ≤ R.slots) (hlocks : meth.locks = false)
    (hx : ∀ t : State, s.vm.Alike t.vm → H.size ≤ t.heap.size → (∀ q : Nat, q < H.size → t.heap[q]? = H[q]?) → XC cls s t)
    (hf : ∀ z ∈ locs, free z.base) (hc : cells + 1 ≤ mc) (hs : slots + 6 ≤ ms) :
    W p l e R s m args below meth c H locs cells slots (vx_MQ below Qc XC args s mc ms free) (F0 m pc ls rest) := by
  intro T hT X
  have htr : e.platform.stackTraces = false := (show e.platform.stackTraces = l.stackTraces by rw [X.admits.platform]).trans hl
  have Y := vx_rebase X (R' := { frames := R.frames, locals := R.locals, cells := 1, slots := 6 }) (Nat.le_refl _) (Nat.le_refl _) hRcells hRslots
  obtain ⟨s', hA⟩ : ∃ z, z = (T.setVm s.vm).setFrames (.invoking m args :: below) := ⟨_, rfl⟩
  rw [← hA] at Y
  have hvm : s'.vm = s.vm := by rw [hA]; rfl
  have hhp : s'.heap = H := by rw [hA]; exact hT
  have hW0 : s.WarmedH s'.vm := by rw [hvm]; exact State.WarmedH.refl s
  have hat' : ∀ w ∈ vx_at0 own ic cls names, w.before args s' = true := fun w hw => vx_ot_at hW0 hvm.symm (hgood w (List.mem_cons_of_mem _ (List.mem_cons_of_mem _ hw))) (hat w hw)
  have hk' : (Cond.classLink own ik cls).before args s' = true := vx_ot_at hW0 hvm.symm (hgood _ List.mem_cons_self) hk
  have hini' : (Cond.initialized cls).before args s' = true := vx_ot_at hW0 hvm.symm (hgood _ (List.mem_cons_of_mem _ List.mem_cons_self)) hini
  have hU' : vx_Zq Bundle.tN "UNASSIGNED_STACK" Bundle.steD A s' s'.heap := by rw [hhp]; exact vx_Zq.moved hW0.alike (hU.kept hS.2.1)
  have hN' : vx_Zq Bundle.tN "SUPPRESSED_SENTINEL" Bundle.listD A s' s'.heap := by rw [hhp]; exact vx_Zq.moved hW0.alike (hN.kept hS.2.1)
  have h : ∀ w ∈ Bundle.ownAtoms0 own ic cls names, w.before args s' = true := vx_own hat' (vx_isRefq hU'.1) (vx_isRefq hN'.1) hU'.2.word hN'.2.word
  have hown' : s'.vm.findClass own = some m.cls := by rw [hvm]; exact hown
  have hins : (Cond.instantiable cls 6).before args s' = true := h _ (by simp [Bundle.ownAtoms0])
  obtain ⟨vm₁, cX, kX, hfX, hkX, -, -, X₁, st1⟩ := Y.newCold hexec (own := own) (C := cls) (index := ik) (n := 6) hown' hk' hins hini'
    (g := F0 m pc ls rest) rfl (by rw [hb]; exact d0) (Nat.le_refl _) (Nat.le_refl _)
  generalize hT1 : (T.setVm vm₁).pushCell { cls := cX, slots := kX.instanceTypes.map defaultValue, vm := .none } = T1 at X₁ st1
  have hcat : (Value.ref T.heap.size).category = 1 := rfl
  have hcellA : T1.heap[T.heap.size]? = some (freshCell cX kX) := by rw [← hT1]; exact State.heap_pushCell_size _ _
  have d3' : decode c.code (pc + 3) = .ok (.dup, 1) := by rw [hb]; exact d3
  obtain ⟨U, hsteps, hrun, hend, hW, hsame, ce, hce, hO⟩ := X₁.ctorThrow0 hexec htr (own := own) (cls := cls) (names := names) (ic := ic) hown' hcls hnames h (fun x hx => nomatch hx) hfX hkX hcellA (by rw [hhp, hT]; exact Nat.le_refl _)
    (g := { method := m, pc := pc + 4, locals := ls, stack := .ref T.heap.size :: .ref T.heap.size :: rest, locked := none }) rfl hsize rfl rfl (rest := rest) rfl
    (by rw [hb]; exact d4) (by rw [hb]; exact d7) hout hRframes (by simp only [List.map_cons, List.sum_cons, hcat]; omega) hlocks
  obtain ⟨f1, f2⟩ := vx_frame hsame
  rw [hhp] at f1 f2
  have hWs : s.WarmedH U.vm := State.WarmedH.trans hW0 hW
  have hcl : s.vm.findClass cls = some ce.cls := by
    have h9 := hO.cls
    rw [hvm] at h9
    exact h9
  have hall : s.sameButNew ({ U with vm := s.vm } : State) locs mc ms := by
    subst hA
    obtain ⟨e1, e2⟩ := hsame
    rw [State.setFrames_setFrames] at e1
    have h2 : (T.setVm s.vm).sameButNew ({ U with vm := s.vm } : State) [] (0 + 1) (0 + 6) := ⟨e1, e2⟩
    have h3 := X.same.trans h2
    rw [List.append_nil] at h3
    exact h3.mono hc hs
  refine ⟨U, ?_, .threw T.heap.size, hrun, hend, Or.inr ⟨T.heap.size, rfl, cls, ce, locs, hx U hWs.alike f1 (fun q hq => f2 q hq (fun z hz => nomatch hz)), hce, hO.vm, hcl, hWs, hall, hf⟩⟩
  refine st1 _ ?_
  show Steps p.tables e below (T1.setTop { method := m, pc := pc + 3, locals := ls, stack := .ref T.heap.size :: rest, locked := none }) _
  jvm_step X₁.here [X₁.here.top, hexec, d3', Value.category]
  exact hsteps
/-- 'throw new E("text")': new; dup; ldc; invokespecial; athrow -/
theorem vx_throwS {cc : ByteArray} {pc : Nat} (hexec : p.tables.exec = Jvm.exec) (hb : c.code = cc) (hl : l.stackTraces = false) {own cls text : String} {names : List String} {ik is ic mc ms sa : Nat} {A : Nat → Prop}
    (hown : s.vm.findClass own = some m.cls) (hcls : Bundle.fit cls = true) (hnames : ∀ n ∈ names, Bundle.fit n = true)
    (hk : (Cond.classLink own ik cls).before args s = true) (hini : (Cond.initialized cls).before args s = true) (hstr : vk_R own is text sa s) (hat : ∀ w ∈ vx_atS own ic cls names, w.before args s = true)
    (hgood : ∀ w ∈ Cond.classLink own ik cls :: Cond.initialized cls :: vx_atS own ic cls names, vx_ot w = true)
    (hU : vx_Zq Bundle.tN "UNASSIGNED_STACK" Bundle.steD A s s.heap) (hN : vx_Zq Bundle.tN "SUPPRESSED_SENTINEL" Bundle.listD A s s.heap) (hS : va_S A s.heap H locs) (hsize : ls.size = c.maxLocals)
    (d0 : decode cc pc = .ok (.new ik, 3)) (d3 : decode cc (pc + 3) = .ok (.dup, 1)) (d4 : decode cc (pc + 4) = .ok (.ldc is, 2)) (d6 : decode cc (pc + 6) = .ok (.invokespecial ic, 3)) (d9 : decode cc (pc + 9) = .ok (.athrow, 1))
    (hout : ∀ x ∈ c.exceptionTable.toList, covers x (pc + 9) = false)
    (hRframes : names.length + 3 < R.frames) (hRlocals : (rest.map fun v => v.category).sum + (13 * (names.length + 1) + 43) ≤ R.locals) (hRcells : cells + 1 ≤ R.cells) (hRslots : slots + 6 ≤ R.slots) (hlocks : meth.locks = false)
    (hx : ∀ t : State, s.vm.Alike t.vm → H.size ≤ t.heap.size → (∀ q : Nat, q < H.size → t.heap[q]? = H[q]?) → XC cls s t)
    (hf : ∀ z ∈ locs, free z.base) (hc : cells + 1 ≤ mc) (hs : slots + 6 ≤ ms) :
    W p l e R s m args below meth c H locs cells slots (vx_MQ below Qc XC args s mc ms free) (F0 m pc ls rest) := by
  intro T hT X
  have htr : e.platform.stackTraces = false := (show e.platform.stackTraces = l.stackTraces by rw [X.admits.platform]).trans hl
  have Y := vx_rebase X (R' := { frames := R.frames, locals := R.locals, cells := 1, slots := 6 }) (Nat.le_refl _) (Nat.le_refl _) hRcells hRslots
  obtain ⟨s', hA⟩ : ∃ z, z = (T.setVm s.vm).setFrames (.invoking m args :: below) := ⟨_, rfl⟩
  rw [← hA] at Y
  have hvm : s'.vm = s.vm := by rw [hA]; rfl
  have hhp : s'.heap = H := by rw [hA]; exact hT
  have hW0 : s.WarmedH s'.vm := by rw [hvm]; exact State.WarmedH.refl s
  have hat' : ∀ w ∈ vx_atS own ic cls names, w.before args s' = true := fun w hw => vx_ot_at hW0 hvm.symm (hgood w (List.mem_cons_of_mem _ (List.mem_cons_of_mem _ hw))) (hat w hw)
  have hk' : (Cond.classLink own ik cls).before args s' = true := vx_ot_at hW0 hvm.symm (hgood _ List.mem_cons_self) hk
  have hini' : (Cond.initialized cls).before args s' = true := vx_ot_at hW0 hvm.symm (hgood _ (List.mem_cons_of_mem _ List.mem_cons_self)) hini
  have hU' : vx_Zq Bundle.tN "UNASSIGNED_STACK" Bundle.steD A s' s'.heap := by rw [hhp]; exact vx_Zq.moved hW0.alike (hU.kept hS.2.1)
  have hN' : vx_Zq Bundle.tN "SUPPRESSED_SENTINEL" Bundle.listD A s' s'.heap := by rw [hhp]; exact vx_Zq.moved hW0.alike (hN.kept hS.2.1)
  have h : ∀ w ∈ Bundle.ownAtoms own ic cls names, w.before args s' = true := vx_own hat' (vx_isRefq hU'.1) (vx_isRefq hN'.1) hU'.2.word hN'.2.word
  have hown' : s'.vm.findClass own = some m.cls := by rw [hvm]; exact hown
  have hins : (Cond.instantiable cls 6).before args s' = true := h _ (by simp [Bundle.ownAtoms])
  obtain ⟨vm₁, cX, kX, hfX, hkX, -, -, X₁, st1⟩ := Y.newCold hexec (own := own) (C := cls) (index := ik) (n := 6) hown' hk' hins hini'
    (g := F0 m pc ls rest) rfl (by rw [hb]; exact d0) (Nat.le_refl _) (Nat.le_refl _)
  generalize hT1 : (T.setVm vm₁).pushCell { cls := cX, slots := kX.instanceTypes.map defaultValue, vm := .none } = T1 at X₁ st1
  have hcat : (Value.ref T.heap.size).category = 1 := rfl
  have hcellA : T1.heap[T.heap.size]? = some (freshCell cX kX) := by rw [← hT1]; exact State.heap_pushCell_size _ _
  have d3' : decode c.code (pc + 3) = .ok (.dup, 1) := by rw [hb]; exact d3
  have d4' : decode c.code (pc + 4) = .ok (.ldc is, 2) := by rw [hb]; exact d4
  have hstr' : vk_R own is text sa s' := vk_R.warm hW0 hstr
  obtain ⟨U, hsteps, hrun, hend, hW, hsame, ce, hce, hO⟩ := X₁.ctorThrowS hexec htr (own := own) (cls := cls) (names := names) (ic := ic) hown' hcls hnames h (fun x hx => nomatch hx) hfX hkX hcellA (by rw [hhp, hT]; exact Nat.le_refl _) (msg := .ref sa) rfl
    (g := { method := m, pc := pc + 6, locals := ls, stack := .ref sa :: .ref T.heap.size :: .ref T.heap.size :: rest, locked := none }) rfl hsize rfl rfl (rest := rest) rfl
    (by rw [hb]; exact d6) (by rw [hb]; exact d9) hout hRframes (by simp only [List.map_cons, List.sum_cons, hcat]; omega) hlocks
  obtain ⟨f1, f2⟩ := vx_frame hsame
  rw [hhp] at f1 f2
  have hWs : s.WarmedH U.vm := State.WarmedH.trans hW0 hW
  have hcl : s.vm.findClass cls = some ce.cls := by
    have h9 := hO.cls
    rw [hvm] at h9
    exact h9
  have hall : s.sameButNew ({ U with vm := s.vm } : State) locs mc ms := by
    subst hA
    obtain ⟨e1, e2⟩ := hsame
    rw [State.setFrames_setFrames] at e1
    have h2 : (T.setVm s.vm).sameButNew ({ U with vm := s.vm } : State) [] (0 + 1) (0 + 6) := ⟨e1, e2⟩
    have h3 := X.same.trans h2
    rw [List.append_nil] at h3
    exact h3.mono hc hs
  refine ⟨U, ?_, .threw T.heap.size, hrun, hend, Or.inr ⟨T.heap.size, rfl, cls, ce, locs, hx U hWs.alike f1 (fun q hq => f2 q hq (fun z hz => nomatch hz)), hce, hO.vm, hcl, hWs, hall, hf⟩⟩
  refine st1 _ ?_
  show Steps p.tables e below (T1.setTop { method := m, pc := pc + 3, locals := ls, stack := .ref T.heap.size :: rest, locked := none }) _
  jvm_step X₁.here [X₁.here.top, hexec, d3', Value.category]
  exact X₁.ldcString hexec (own := own) (text := text) (index := is) (a := sa) hown' hstr'.1 hstr'.2
    (g := { method := m, pc := pc + 4, locals := ls, stack := .ref T.heap.size :: .ref T.heap.size :: rest, locked := none }) rfl d4' _ hsteps
/-- 'throw new E("text")', the text by a wide index -/
theorem vx_throwSW {cc : ByteArray} {pc : Nat} (hexec : p.tables.exec = Jvm.exec) (hb : c.code = cc) (hl : l.stackTraces = false) {own cls text : String} {names : List String} {ik is ic mc ms sa : Nat} {A : Nat → Prop}
    (hown : s.vm.findClass own = some m.cls) (hcls : Bundle.fit cls = true) (hnames : ∀ n ∈ names, Bundle.fit n = true)
    (hk : (Cond.classLink own ik cls).before args s = true) (hini : (Cond.initialized cls).before args s = true) (hstr : vk_R own is text sa s) (hat : ∀ w ∈ vx_atS own ic cls names, w.before args s = true)
    (hgood : ∀ w ∈ Cond.classLink own ik cls :: Cond.initialized cls :: vx_atS own ic cls names, vx_ot w = true)
    (hU : vx_Zq Bundle.tN "UNASSIGNED_STACK" Bundle.steD A s s.heap) (hN : vx_Zq Bundle.tN "SUPPRESSED_SENTINEL" Bundle.listD A s s.heap) (hS : va_S A s.heap H locs) (hsize : ls.size = c.maxLocals)
    (d0 : decode cc pc = .ok (.new ik, 3)) (d3 : decode cc (pc + 3) = .ok (.dup, 1)) (d4 : decode cc (pc + 4) = .ok (.ldc_w is, 3)) (d7 : decode cc (pc + 7) = .ok (.invokespecial ic, 3)) (d10 : decode cc (pc + 10) = .ok (.athrow, 1))
    (hout : ∀ x ∈ c.exceptionTable.toList, covers x (pc + 10) = false)
    (hRframes : names.length + 3 < R.frames) (hRlocals : (rest.map fun v => v.category).sum + (13 * (names.length + 1) + 43) ≤ R.locals) (hRcells : cells + 1 ≤ R.cells) (hRslots : slots + 6 ≤ R.slots) (hlocks : meth.locks = false)
    (hx : ∀ t : State, s.vm.Alike t.vm → H.size ≤ t.heap.size → (∀ q : Nat, q < H.size → t.heap[q]? = H[q]?) → XC cls s t)
    (hf : ∀ z ∈ locs, free z.base) (hc : cells + 1 ≤ mc) (hs : slots + 6 ≤ ms) :
    W p l e R s m args below meth c H locs cells slots (vx_MQ below Qc XC args s mc ms free) (F0 m pc ls rest) := by
  intro T hT X
  have htr : e.platform.stackTraces = false := (show e.platform.stackTraces = l.stackTraces by rw [X.admits.platform]).trans hl
  have Y := vx_rebase X (R' := { frames := R.frames, locals := R.locals, cells := 1, slots := 6 }) (Nat.le_refl _) (Nat.le_refl _) hRcells hRslots
  obtain ⟨s', hA⟩ : ∃ z, z = (T.setVm s.vm).setFrames (.invoking m args :: below) := ⟨_, rfl⟩
  rw [← hA] at Y
  have hvm : s'.vm = s.vm := by rw [hA]; rfl
  have hhp : s'.heap = H := by rw [hA]; exact hT
  have hW0 : s.WarmedH s'.vm := by rw [hvm]; exact State.WarmedH.refl s
  have hat' : ∀ w ∈ vx_atS own ic cls names, w.before args s' = true := fun w hw => vx_ot_at hW0 hvm.symm (hgood w (List.mem_cons_of_mem _ (List.mem_cons_of_mem _ hw))) (hat w hw)
  have hk' : (Cond.classLink own ik cls).before args s' = true := vx_ot_at hW0 hvm.symm (hgood _ List.mem_cons_self) hk
  have hini' : (Cond.initialized cls).before args s' = true := vx_ot_at hW0 hvm.symm (hgood _ (List.mem_cons_of_mem _ List.mem_cons_self)) hini
  have hU' : vx_Zq Bundle.tN "UNASSIGNED_STACK" Bundle.steD A s' s'.heap := by rw [hhp]; exact vx_Zq.moved hW0.alike (hU.kept hS.2.1)
  have hN' : vx_Zq Bundle.tN "SUPPRESSED_SENTINEL" Bundle.listD A s' s'.heap := by rw [hhp]; exact vx_Zq.moved hW0.alike (hN.kept hS.2.1)
  have h : ∀ w ∈ Bundle.ownAtoms own ic cls names, w.before args s' = true := vx_own hat' (vx_isRefq hU'.1) (vx_isRefq hN'.1) hU'.2.word hN'.2.word
  have hown' : s'.vm.findClass own = some m.cls := by rw [hvm]; exact hown
  have hins : (Cond.instantiable cls 6).before args s' = true := h _ (by simp [Bundle.ownAtoms])
  obtain ⟨vm₁, cX, kX, hfX, hkX, -, -, X₁, st1⟩ := Y.newCold hexec (own := own) (C := cls) (index := ik) (n := 6) hown' hk' hins hini'
    (g := F0 m pc ls rest) rfl (by rw [hb]; exact d0) (Nat.le_refl _) (Nat.le_refl _)
  generalize hT1 : (T.setVm vm₁).pushCell { cls := cX, slots := kX.instanceTypes.map defaultValue, vm := .none } = T1 at X₁ st1
  have hcat : (Value.ref T.heap.size).category = 1 := rfl
  have hcellA : T1.heap[T.heap.size]? = some (freshCell cX kX) := by rw [← hT1]; exact State.heap_pushCell_size _ _
  have d3' : decode c.code (pc + 3) = .ok (.dup, 1) := by rw [hb]; exact d3
  have d4' : decode c.code (pc + 4) = .ok (.ldc_w is, 3) := by rw [hb]; exact d4
  have hstr' : vk_R own is text sa s' := vk_R.warm hW0 hstr
  obtain ⟨U, hsteps, hrun, hend, hW, hsame, ce, hce, hO⟩ := X₁.ctorThrowS hexec htr (own := own) (cls := cls) (names := names) (ic := ic) hown' hcls hnames h (fun x hx => nomatch hx) hfX hkX hcellA (by rw [hhp, hT]; exact Nat.le_refl _) (msg := .ref sa) rfl
    (g := { method := m, pc := pc + 7, locals := ls, stack := .ref sa :: .ref T.heap.size :: .ref T.heap.size :: rest, locked := none }) rfl hsize rfl rfl (rest := rest) rfl
    (by rw [hb]; exact d7) (by rw [hb]; exact d10) hout hRframes (by simp only [List.map_cons, List.sum_cons, hcat]; omega) hlocks
  obtain ⟨f1, f2⟩ := vx_frame hsame
  rw [hhp] at f1 f2
  have hWs : s.WarmedH U.vm := State.WarmedH.trans hW0 hW
  have hcl : s.vm.findClass cls = some ce.cls := by
    have h9 := hO.cls
    rw [hvm] at h9
    exact h9
  have hall : s.sameButNew ({ U with vm := s.vm } : State) locs mc ms := by
    subst hA
    obtain ⟨e1, e2⟩ := hsame
    rw [State.setFrames_setFrames] at e1
    have h2 : (T.setVm s.vm).sameButNew ({ U with vm := s.vm } : State) [] (0 + 1) (0 + 6) := ⟨e1, e2⟩
    have h3 := X.same.trans h2
    rw [List.append_nil] at h3
    exact h3.mono hc hs
  refine ⟨U, ?_, .threw T.heap.size, hrun, hend, Or.inr ⟨T.heap.size, rfl, cls, ce, locs, hx U hWs.alike f1 (fun q hq => f2 q hq (fun z hz => nomatch hz)), hce, hO.vm, hcl, hWs, hall, hf⟩⟩
  refine st1 _ ?_
  show Steps p.tables e below (T1.setTop { method := m, pc := pc + 3, locals := ls, stack := .ref T.heap.size :: rest, locked := none }) _
  jvm_step X₁.here [X₁.here.top, hexec, d3', Value.category]
  exact X₁.ldcStringW hexec (own := own) (text := text) (index := is) (a := sa) hown' hstr'.1 hstr'.2
    (g := { method := m, pc := pc + 4, locals := ls, stack := .ref T.heap.size :: .ref T.heap.size :: rest, locked := none }) rfl d4' _ hsteps
end Ends
section Bodies
variable {l : Launch}
theorem vx_ofW {y : MethodName} {ws ws' : List Cond} {rm : Room} {Pc : Array Value → State → Prop} {Qc : Array Value → State → Outcome → State → Prop} {XC : String → State → State → Prop} {mc ms : Nat} {free : Addr → Prop} {cc : ByteArray} {maxL : Nat} {ret : Option FieldType}
    (hy : plainName y.cls = true) (hw : ws = Cond.code y cc maxL ret :: ws')
    (body : ∀ p e s m args below meth c s₁, BodyLoose p l y (headSpec ws rm) cc maxL ret e s m args below meth c s₁ → c.maxLocals = maxL → (∀ x ∈ c.exceptionTable.toList, False) → Pc args s →
      W p l e (headSpec ws rm).room s m args below meth c s.heap [] 0 0 (vx_MQ below Qc XC args s mc ms free) (entryFrame m args maxL)) : vx_Met l y ws rm Pc Qc XC mc ms free := by
  refine MetFree.of_bodyS (code := cc) (maxLocals := maxL) (ret := ret) hy ?_ ?_
  · intro args s m h hn
    obtain ⟨meth, c, h1, h2, h3, h4, h5, h6, -, -⟩ := Cond.code_spec hn (atoms_spec (ws := ws) h _ (by rw [hw]; exact List.mem_cons_self))
    exact ⟨meth, c, h1, h2, h3, h4, h5, h6⟩
  · intro p e s m args below meth c s₁ B hml hP _
    have hh0 : s₁.heap = s.heap := by rw [B.state]; rfl
    have ht : ∀ x ∈ c.exceptionTable.toList, False := by
      obtain ⟨meth9, c9, h1, h2, -, -, -, -, h7, -⟩ := Cond.code_spec B.named (atoms_spec (ws := ws) B.pre _ (by rw [hw]; exact List.mem_cons_self))
      cases Option.some.inj (h1.symm.trans B.method)
      cases Option.some.inj (h2.symm.trans (Stand.of_body B).code)
      intro x hx
      rw [Array.isEmpty_iff.mp h7] at hx
      cases hx
    obtain ⟨t, a1, o, b1, b2, b3⟩ := body p e s m args below meth c s₁ B hml ht hP s₁ hh0 (Stand.of_body B)
    exact ⟨t, o, a1, b1, b2, b3⟩
/-- the table of a body with handlers -/
theorem vx_table {p : Program} {x y : MethodName} {S : Spec} {cc bytes : ByteArray} {maxL maxL' : Nat} {ret ret' : Option FieldType} {e : Env} {s s₁ : State} {m : MethodId} {args : Array Value} {below : List Frame} {meth : Method} {c : Code} {hh : List (Nat × Nat × Nat × Nat)}
    (B : BodyLoose p l y S cc maxL ret e s m args below meth c s₁) (h : (Cond.codeWith y bytes maxL' ret' hh).before args s = true) : c.exceptionTable.toList = tableOf hh := by
  obtain ⟨m9, meth9, c9, hn9, h1, h2, -, -, h6, -⟩ := Cond.codeWith_spec h
  cases Option.some.inj (hn9.symm.trans B.named)
  cases Option.some.inj (h1.symm.trans B.method)
  cases Option.some.inj (h2.symm.trans (Stand.of_body B).code)
  rw [← h6, table_eq]
end Bodies
end VXA
/-! ===== END ===== -/
/-! ===== BEGIN a static call of a method with an exception table ===== -/
section VXS
variable {p : Program} {l : Launch} {e : Env} {R : Room} {s : State} {m : MethodId} {args : Array Value} {below : List Frame} {meth : Method} {c : Code} {T : State} {H : Heap} {locs : List Loc} {cells slots : Nat}
abbrev vx_CSW (R : Room) (s : State) (args : Array Value) (own : String) (index : Nat) (y : MethodName) (bytes : ByteArray) (maxL : Nat) (ret : Option FieldType) (hh : List (Nat × Nat × Nat × Nat)) (ws : List Cond) (rm : Room) (mc ms n : Nat) : Prop :=
  (rm.cells = mc ∧ rm.slots = ms ∧ rm.frames + 1 ≤ R.frames ∧ 8 + (maxL + 11) + rm.locals ≤ R.locals ∧ (∀ w ∈ ws, ∀ (a' : Array Value) (U : State), s.WarmedH U.vm → w.before a' U = true) ∧ Cond.codeWith y bytes maxL ret hh ∈ ws) ∧
  (Cond.codeWith y bytes maxL ret hh).before args s = true ∧ (Cond.initialized y.cls).before args s = true ∧ (y.cls ≠ "java/lang/invoke/MethodHandle" ∧ y.cls ≠ "java/lang/invoke/VarHandle") ∧
  (∀ sig, parseMethodDescriptor y.desc = some sig → n = sig.parameters.length) ∧ (Cond.methodLink own index y).before args s = true ∧ (Cond.static y).before args s = true
theorem vx_cwSW {own : String} {index maxL mc ms : Nat} {y : MethodName} {bytes : ByteArray} {ret : Option FieldType} {hh : List (Nat × Nat × Nat × Nat)} {Ts ws ws' : List Cond} {rm : Room} (n : Nat) (ht : ∀ w ∈ Ts, w.before args s = true) (hT : GoodIn Ts (va_wsS own index y ws)) (hw : ws = Cond.codeWith y bytes maxL ret hh :: ws') (hrc : rm.cells = mc) (hrs : rm.slots = ms)
    (hd : y.cls ≠ "java/lang/invoke/MethodHandle" ∧ y.cls ≠ "java/lang/invoke/VarHandle" ∧ (parseMethodDescriptor y.desc).map (fun d => d.parameters.length) = some n) (hR : rm.frames + 1 ≤ R.frames ∧ 8 + (maxL + 11) + rm.locals ≤ R.locals) :
    vx_CSW R s args own index y bytes maxL ret hh ws rm mc ms n := by
  have ok : ∀ w ∈ va_wsS own index y ws, w.before args s = true := fun w h => ht w (hT w h).1
  have hG : GoodIn Ts ws := fun w h => hT w (by unfold va_wsS; exact List.mem_append_right _ h)
  have hc : Cond.codeWith y bytes maxL ret hh ∈ ws := by rw [hw]; exact List.mem_cons_self
  refine ⟨⟨hrc, hrs, hR.1, hR.2, pay_in ht hG, hc⟩, ht _ (hG _ hc).1, ok _ (by simp [va_wsS]), ⟨hd.1, hd.2.1⟩, fun sig h => ?_, ok _ (by simp [va_wsS]), ok _ (by simp [va_wsS])⟩
  have h2 := hd.2.2
  rw [h] at h2
  exact (Option.some.inj h2).symm
theorem vx_callSW (X : Stand p l e R s m args below meth c T locs cells slots) (hexec : p.tables.exec = Jvm.exec) {own : String} {index : Nat} {y : MethodName} {bytes : ByteArray} {maxL : Nat} {ret : Option FieldType} {hh : List (Nat × Nat × Nat × Nat)}
    (hown : s.vm.findClass own = some m.cls) (hlink : (Cond.methodLink own index y).before args s = true) (hstat : (Cond.static y).before args s = true) (hinit : (Cond.initialized y.cls).before args s = true)
    (hcode : (Cond.codeWith y bytes maxL ret hh).before args s = true) (hy : y.cls ≠ "java/lang/invoke/MethodHandle" ∧ y.cls ≠ "java/lang/invoke/VarHandle")
    {W9 : Nat} {Pre : Pt → Array Value → Prop} {Post : Pt → Array Value → Option Value → Pt → Prop} (hK : Back l R p e below s args y 3 W9 Pre Post)
    {g : JFrame} (hg : g.method = m) (hsize : g.locals.size = c.maxLocals) {argsL rest : List Value} (hlen : ∀ sig, parseMethodDescriptor y.desc = some sig → argsL.length = sig.parameters.length)
    (hstack : g.stack = argsL.reverse ++ rest) (hW : 2 * g.monitorRoom + (rest.map fun v => v.category).sum ≤ W9) (hdg : decode c.code g.pc = .ok (.invokestatic index, 3))
    (hpre : ∀ vm₁, s.WarmedH vm₁ → Pre ⟨T.setVm vm₁, locs, cells, slots⟩ argsL.toArray) :
    ∃ (v : Option Value) (vm₁ : Vm) (B : Pt), s.WarmedH vm₁ ∧ Stand p l e R s m args below meth c B.U B.locs B.cells B.slots ∧ Post ⟨T.setVm vm₁, locs, cells, slots⟩ argsL.toArray v B ∧
      ∀ target, Steps p.tables e below (B.U.setTop { g with pc := g.pc + 3, stack := v.toList ++ rest }) target → Steps p.tables e below (T.setTop g) target := by
  obtain ⟨mk, methM, cM, hnamed, hmethM, -, -, -, -, -, -, hsigM⟩ := Cond.codeWith_spec hcode
  have hstatic : methM.isStatic = true := Cond.static_spec hnamed hmethM hstat
  obtain ⟨kP, hkP, -⟩ := className_of_methodNamed hnamed
  have hinitP : kP.init = .initialized := Cond.initialized_spec (findClass_of_methodNamed hnamed) hkP hinit
  obtain ⟨vm₁, X₁, hstep₁⟩ := X.invokestatic hexec hown hlink hnamed hmethM hstatic hkP hinitP hy (g := g) hg (argsL := argsL) (rest := rest) (hlen _ hsigM) hstack hdg
  obtain ⟨v, B, X', hpost, hsteps⟩ := hK m meth c ⟨T.setVm vm₁, locs, cells, slots⟩ { g with stack := rest } (.invokestatic index) mk argsL.toArray X₁ hg hsize hdg hW (X₁.named hnamed) (hpre vm₁ X₁.warmed)
  exact ⟨v, vm₁, B, X₁.warmed, X', hpost, fun target h => hstep₁ _ fun acts => by rw [doInvoke_state]; exact hsteps.trans h⟩
theorem vx_runSW {y : MethodName} {bytes cc : ByteArray} {maxL nL mc ms n index : Nat} {ret : Option FieldType} {hh : List (Nat × Nat × Nat × Nat)} {ws : List Cond} {rm : Room} {Pc : Array Value → State → Prop} {Qc : Array Value → State → Outcome → State → Prop} {free : Addr → Prop} {Ts : List Cond} {own : String} {As rest : List Value} {g : JFrame}
    (S : CallFix p m c cc nL s args Ts own) (hM : Met l y ws rm Pc Qc mc ms free) (cw : vx_CSW R s args own index y bytes maxL ret hh ws rm mc ms n) (hp : PreS s H Pc As)
    (hg : g.method = m) (hn : As.length = n) (hsize : g.locals.size = nL) (hstack : g.stack = As.reverse ++ rest) (hW : 2 * g.monitorRoom + (rest.map fun v => v.category).sum ≤ 8) (hdg : decode cc g.pc = .ok (.invokestatic index, 3)) (hf : cells + mc ≤ R.cells ∧ slots + ms ≤ R.slots) :
    va_Run p l e R s m args below meth c H locs cells slots mc ms g rest (Qc As.toArray) (free) := by
  obtain ⟨⟨hrc, hrs, hfr, hlo, hws, hcw⟩, hcode, hini, hy, hlen, hl, hstt⟩ := cw
  have hK : Back l R p e below s args y 3 8 (PreOf R mc ms Pc) (PostOf Qc mc ms free) := va_backW (hh := hh) (bytes := bytes) (maxL := maxL) (ret := ret) hM hp.1 hrc hrs hfr hlo hws hcw (fun a' U hW => word_at hW (Or.inl (by first | rfl | simp [Cond.onTables, Cond.keeps, Cond.steady])) hini)
  obtain ⟨hx, hb, hml, ho, -⟩ := S
  intro T hT X
  obtain ⟨v, vm₁, ⟨U', l2, c2, s2⟩, hW₁, X', ⟨g', mk, t, L, e1, e2, hq, h1, hL, h2, h3⟩, st⟩ := vx_callSW X hx (hh := hh) (bytes := bytes) (maxL := maxL) (ret := ret) ho hl hstt hini hcode hy hK hg (hsize.trans hml.symm) (argsL := As) (rest := rest) (fun sig h => hn.trans (hlen sig h)) hstack hW (by rw [hb]; exact hdg)
    (fun vm₁ hW₁ => ⟨hf.1, hf.2, hp.2 (T.setVm vm₁) hT hW₁⟩)
  dsimp only [Pt.U, Pt.locs, Pt.cells, Pt.slots] at X' e1 e2 h1 h2 h3 st
  subst h1; subst h2; subst h3
  exact ⟨v, (T.setVm vm₁).calling g' mk As.toArray, t, U', L, hT, X', hL, e1, e2, hq, st⟩
/-- not caught here, past rows that name other classes: it goes on to the caller -/
theorem vx_outP {p : Program} {l : Launch} {e : Env} {R : Room} {s : State} {m : MethodId} {args : Array Value} {below : List Frame} {meth : Method} {c : Code} {H : Heap} {locs : List Loc} {cells slots : Nat} {free : Addr → Prop} {ls : Array Slot} {rest : List Value} {Qc : Array Value → State → Outcome → State → Prop} {XC : String → State → State → Prop}
    {pc : Nat} {own E : String} {ce : Cell} {q : Addr} {mc ms : Nat} (hown : s.vm.findClass own = some m.cls) (hlocks : meth.locks = false)
    (hpass : ∀ z ∈ c.exceptionTable.toList, covers z pc = false ∨ (z.catchType ≠ 0 ∧ ∃ nm : String, (Cond.classLink own z.catchType nm).before args s = true ∧ va_Nc E nm s)) (hcell : H[q]? = some ce) (hv : ce.vm = .none) (hcl : s.vm.findClass E = some ce.cls)
    (hx : ∀ t : State, t.heap = H → s.vm.Alike t.vm → XC E s t) (hf : ∀ z ∈ locs, free z.base) (hc : cells ≤ mc) (hs : slots ≤ ms) :
    vx_W p l e R s m args below meth c H locs cells slots (vx_MQ below Qc XC args s mc ms free) (F0 m pc ls rest) q := by
  intro T hT X
  have hpl : e.platform.magicAccessors = ({} : Platform).magicAccessors := by rw [X.admits.platform]
  obtain ⟨vm', hW', X', st⟩ := X.outThrough hlocks q (g := F0 m pc ls rest) rfl rfl rfl (cell := ce) (by rw [hT]; exact hcell) (by rw [hv]; rfl)
    (by obtain ⟨k9, h9, -⟩ := Vm.findClass_spec hcl; exact ⟨k9, h9⟩) (fun z hz => by
      rcases hpass z hz with h | ⟨hz0, nm, hl1, hn1⟩
      · exact Or.inl h
      · obtain ⟨c6, hc6, hcl6⟩ := Cond.classLink_spec hown hl1 e.platform hpl
        obtain ⟨a8, b8, h1, h2, h3⟩ := hn1
        cases Option.some.inj (h1.symm.trans hcl)
        cases Option.some.inj (h2.symm.trans hc6)
        exact Or.inr ⟨hz0, _, hcl6, h3⟩)
  obtain ⟨g₀, hfr⟩ := X'.frames_eq
  have hcell9 : ((T.setVm vm').setFrames (.throwing q :: below)).heap[q]? = some ce := by
    show T.heap[q]? = some ce
    rw [hT]; exact hcell
  have hend : Ended ((T.setVm vm').setFrames (.throwing q :: below)) below (.threw q) := State.frames_setFrames _ (State.cur_lt_of_frames hfr)
  refine ⟨(T.setVm vm').setFrames (.throwing q :: below), ?_, .threw q, X'.here.running, hend, Or.inr ⟨q, rfl, E, ce, locs, hx _ hT (X'.ends _).1.alike, hcell9, hv, hcl, (X'.ends _).1, (X'.ends _).2.mono hc hs, hf⟩⟩
  rw [X.pushThrowing_eq]
  exact st
/-- a thing of a world lies in the heap -/
theorem vx_lt {D : va_G} {cl : List vw_C} {ws : va_W} {H1 : Heap} (h : va_P D cl ws H1) {k : Nat} {q : Nat × va_E} (hk : ws[k]? = some q) : q.1 < H1.size := (h k q hk).lt
end VXS
/-! ===== END ===== -/
/-! ===== BEGIN methods with a table of their own: called by a name, returning or throwing ===== -/
section VXH
/-! vx_backW, vx_callVX, vx_callSX, vx_callVW, vx_runVW, vx_runVX, vx_runSX, vx_ofWH follow the same proofs as their sisters above (Free/Laws.lean, Shelf42/LK1.lean); vx_outP calls Shelf42/NT130.lean (outThrough). -/
section
variable {l : Launch} {R : Room} {p : Program} {e : Env} {below : List Frame} {s : State} {sargs : Array Value} {y : MethodName} {len W9 : Nat}
theorem vx_backW {ws : List Cond} {rm : Room} {Pc : Array Value → State → Prop} {Qc : Array Value → State → Outcome → State → Prop} {XC : String → State → State → Prop} {mc ms : Nat} {free : Addr → Prop} {bytes : ByteArray} {maxL : Nat} {ret : Option FieldType} {hh : List (Nat × Nat × Nat × Nat)}
    (hM : vx_Met l y ws rm Pc Qc XC mc ms free) (hblind : FrameBlind Pc) (hrc : rm.cells = mc) (hrs : rm.slots = ms)
    (hframes : rm.frames + 1 ≤ R.frames) (hlocals : W9 + (maxL + 11) + rm.locals ≤ R.locals)
    (hws : ∀ w ∈ ws, ∀ a' U, s.WarmedH U.vm → w.before a' U = true) (hcode : Cond.codeWith y bytes maxL ret hh ∈ ws) (hinit : ∀ a' U, s.WarmedH U.vm → (Cond.initialized y.cls).before a' U = true) :
    vx_Back l R p e below s sargs y len W9 (PreOf R mc ms Pc) (PostOf Qc mc ms free) (vx_Post XC mc ms free) := by
  intro m meth c A g ig mk a X hg hsize hdg hW hn hp
  have h1 : (headSpec ws rm).pre.before a A.U = true := atoms_intro fun w hw => hws w hw _ _ X.warmed
  have h2 : (Cond.codeWith y bytes maxL ret hh).before a A.U = true := hws _ hcode _ _ X.warmed
  have h3 : (Cond.initialized y.cls).before a A.U = true := hinit _ _ X.warmed
  have h4 : A.cells + (headSpec ws rm).room.cells ≤ R.cells := by rw [show (headSpec ws rm).room.cells = mc from hrc]; exact hp.1
  have h5 : A.slots + (headSpec ws rm).room.slots ≤ R.slots := by rw [show (headSpec ws rm).room.slots = ms from hrs]; exact hp.2.1
  have hPc : Pc a (A.U.calling g mk a) := hblind _ _ _ _ hp.2.2
  obtain ⟨U, Ls, c0, s0⟩ := A
  dsimp only [Pt.U, Pt.locs, Pt.cells, Pt.slots] at h1 h2 h3 h4 h5 X hn hPc ⊢
  obtain ⟨m9, methY, cY, hn9, hmY, hcY, -, hlY, -⟩ := Cond.codeWith_spec h2
  cases Option.some.inj (hn9.symm.trans hn)
  obtain ⟨kY, hkY, -⟩ := className_of_methodNamed hn
  have hinitY : kY.init = .initialized := Cond.initialized_spec (findClass_of_methodNamed hn) hkY h3
  have h : At U g.method c below := by rw [hg]; exact X.here
  have hlocals9 : W9 + (maxL + 11) + (headSpec ws rm).room.locals ≤ R.locals := hlocals
  have happ : (headSpec ws rm).appliesLoose y e.platform (U.calling g mk a) = true :=
    Spec.appliesLoose_calling (g := g) h hdg hn hkY hinitY
      (X.room_calling (g := g) (R' := (headSpec ws rm).room) hsize hmY hcY hframes (by rw [hlY]; omega) h4 h5) h1
  obtain ⟨mid, hmid⟩ := h.above
  have hfr : (U.setTop g).frames = (.java g :: mid) ++ below := by rw [State.frames_setTop' g h.top, hmid]; rfl
  obtain ⟨o, s₂, hsteps, -, hend, hq⟩ := Steps.callFree hM p X.admits X.cas X.clock (acts := []) hfr happ hPc trivial
  have hq' : vx_Q Qc XC mc ms free a (U.calling g mk a) o s₂ := hq
  rw [State.frames_setTop' g h.top] at hend
  obtain ⟨g₀, hg0⟩ := Option.isSome_iff_exists.mp h.top
  obtain ⟨r, hr⟩ := State.topJava?_eq_some.mp hg0
  have hr' : (({ U with heap := s₂.heap, slotsUsed := s₂.slotsUsed } : State).setVm s₂.vm).frames = .java g₀ :: r := hr
  rcases hq' with ⟨hqc, L, hfe, hL⟩ | ⟨q, rfl, E, ce, L, hx, hce, hcv, hcl, hW₂, hsm, hL⟩
  · obtain ⟨⟨v, rfl⟩, hW₂, e2, q2, q3, q4, q5, q6⟩ := id hfe
    have e3 : s₂ = ({ (U.calling g mk a).setFrames s₂.frames with heap := s₂.heap, slotsUsed := s₂.slotsUsed } : State).setVm s₂.vm := by
      have : s₂ = ({ s₂ with vm := (U.calling g mk a).vm } : State).setVm s₂.vm := rfl
      rw [e2] at this
      exact this
    obtain ⟨c₂, i₂, len₂, hc₂, hd₂, hf₂⟩ := hend
    have hW' : U.WarmedH s₂.vm := hW₂
    have hcc : c₂ = c := by
      have h1 : s₂.code? g.method = U.code? g.method := by
        rw [State.code?_eq, State.code?_eq, hW'.alike.method?]
      exact Option.some.inj (hc₂.symm.trans (h1.trans h.code))
    subst hcc
    have hlen : len₂ = len := by rw [hdg] at hd₂; cases hd₂; rfl
    subst hlen
    have hs₂ : s₂ = (({ U with heap := s₂.heap, slotsUsed := s₂.slotsUsed } : State).setVm s₂.vm).setTop { g with pc := g.pc + len₂, stack := v.toList ++ g.stack } := by
      refine e3.trans ?_
      rw [hf₂, State.calling_eq h.top, State.setFrames_setFrames, State.setTop_of_frames _ hr', hr]
      rfl
    have hsame : U.sameButNew ({ U with heap := s₂.heap, slotsUsed := s₂.slotsUsed } : State) L mc ms := by
      refine ⟨?_, q2, q3, q4, q5, q6⟩
      obtain ⟨t, ht, -⟩ := State.frames_cons hr
      show ({ U with heap := s₂.heap, slotsUsed := s₂.slotsUsed } : State) = { U.setFrames U.frames with heap := s₂.heap, slotsUsed := s₂.slotsUsed }
      rw [State.setFrames_self ht]
    subst hg
    refine Or.inl ⟨v, ⟨(({ U with heap := s₂.heap, slotsUsed := s₂.slotsUsed } : State).setVm s₂.vm), Ls ++ L, c0 + mc, s0 + ms⟩,
      ⟨X.admits, X.cas, X.clock, X.frames, X.room, X.hears, X.method, X.code, (X.here.setHeapUsed s₂.heap s₂.slotsUsed).setVm hW'.alike, X.tail, State.WarmedH.trans X.warmed hW', X.limits, X.bytes, X.same.trans (hsame.setVm s.vm)⟩,
      ⟨g, mk, s₂, L, rfl, rfl, hqc, rfl, hL, rfl, rfl⟩, ?_⟩
    show Steps p.tables e below _ ((({ U with heap := s₂.heap, slotsUsed := s₂.slotsUsed } : State).setVm s₂.vm).setTop { g with pc := g.pc + len₂, stack := v.toList ++ g.stack })
    rw [← hs₂]
    exact hsteps
  · obtain ⟨e2, q2, q3, q4, q5, q6⟩ := id hsm
    have e3 : s₂ = ({ (U.calling g mk a).setFrames s₂.frames with heap := s₂.heap, slotsUsed := s₂.slotsUsed } : State).setVm s₂.vm := by
      have : s₂ = ({ s₂ with vm := (U.calling g mk a).vm } : State).setVm s₂.vm := rfl
      rw [e2] at this
      exact this
    have hf₂ : s₂.frames = .throwing q :: .java g :: U.frames.tail := hend
    have hW' : U.WarmedH s₂.vm := hW₂
    have hs₂ : s₂ = ((({ U with heap := s₂.heap, slotsUsed := s₂.slotsUsed } : State).setVm s₂.vm).setTop g).pushFrame (.throwing q) := by
      refine e3.trans ?_
      rw [hf₂, State.calling_eq h.top, State.setFrames_setFrames, State.pushFrame, State.frames_setTop _ hr', State.setTop_of_frames _ hr', State.setFrames_setFrames, hr]
      rfl
    have hsame : U.sameButNew ({ U with heap := s₂.heap, slotsUsed := s₂.slotsUsed } : State) L mc ms := by
      refine ⟨?_, q2, q3, q4, q5, q6⟩
      obtain ⟨t, ht, -⟩ := State.frames_cons hr
      show ({ U with heap := s₂.heap, slotsUsed := s₂.slotsUsed } : State) = { U.setFrames U.frames with heap := s₂.heap, slotsUsed := s₂.slotsUsed }
      rw [State.setFrames_self ht]
    subst hg
    refine Or.inr ⟨q, ⟨(({ U with heap := s₂.heap, slotsUsed := s₂.slotsUsed } : State).setVm s₂.vm), Ls ++ L, c0 + mc, s0 + ms⟩,
      ⟨X.admits, X.cas, X.clock, X.frames, X.room, X.hears, X.method, X.code, (X.here.setHeapUsed s₂.heap s₂.slotsUsed).setVm hW'.alike, X.tail, State.WarmedH.trans X.warmed hW', X.limits, X.bytes, X.same.trans (hsame.setVm s.vm)⟩,
      ⟨g, mk, s₂, L, E, ce, rfl, rfl, hx, hce, hcv, hcl, rfl, hL, rfl, rfl⟩, ?_⟩
    show Steps p.tables e below _ (((({ U with heap := s₂.heap, slotsUsed := s₂.slotsUsed } : State).setVm s₂.vm).setTop g).pushFrame (.throwing q))
    rw [← hs₂]
    exact hsteps
end
variable {p : Program} {l : Launch} {e : Env} {R : Room} {s : State} {m : MethodId} {args : Array Value} {below : List Frame} {meth : Method} {c : Code} {T : State} {H : Heap} {locs : List Loc} {cells slots : Nat}
theorem vx_callVX (X : Stand p l e R s m args below meth c T locs cells slots) (hexec : p.tables.exec = Jvm.exec) {own C : String} {index : Nat} {y : MethodName} {bytes : ByteArray} {maxL : Nat} {ret : Option FieldType} {hh : List (Nat × Nat × Nat × Nat)}
    (hown : s.vm.findClass own = some m.cls) (hlink : (Cond.methodLink own index y).before args s = true) (hinst : (Cond.instanceMethod y).before args s = true) (hsel : (Cond.selects C y y).before args s = true)
    (hcode : (Cond.codeWith y bytes maxL ret hh).before args s = true) (hy : y.cls ≠ "java/lang/invoke/MethodHandle" ∧ y.cls ≠ "java/lang/invoke/VarHandle")
    {W9 : Nat} {Pre : Pt → Array Value → Prop} {Post : Pt → Array Value → Option Value → Pt → Prop} {PostX : Pt → Array Value → Addr → Pt → Prop} (hK : vx_Back l R p e below s args y 3 W9 Pre Post PostX)
    {b : Addr} {cellB : Cell} (hcell : T.heap[b]? = some cellB) (hobj : cellB.vm.isStatics = false) (hcls : s.vm.findClass C = some cellB.cls)
    {g : JFrame} (hg : g.method = m) (hsize : g.locals.size = c.maxLocals) {argsL rest : List Value} (hlen : ∀ sig, parseMethodDescriptor y.desc = some sig → argsL.length = sig.parameters.length)
    (hstack : g.stack = argsL.reverse ++ .ref b :: rest) (hW : 2 * g.monitorRoom + (rest.map fun v => v.category).sum ≤ W9) (hdg : decode c.code g.pc = .ok (.invokevirtual index, 3))
    (hpre : ∀ vm₁, s.WarmedH vm₁ → Pre ⟨T.setVm vm₁, locs, cells, slots⟩ (Value.ref b :: argsL).toArray) :
    (∃ (v : Option Value) (vm₁ : Vm) (B : Pt), s.WarmedH vm₁ ∧ Stand p l e R s m args below meth c B.U B.locs B.cells B.slots ∧ Post ⟨T.setVm vm₁, locs, cells, slots⟩ (Value.ref b :: argsL).toArray v B ∧
      ∀ target, Steps p.tables e below (B.U.setTop { g with pc := g.pc + 3, stack := v.toList ++ rest }) target → Steps p.tables e below (T.setTop g) target) ∨
    (∃ (q : Addr) (vm₁ : Vm) (B : Pt), s.WarmedH vm₁ ∧ Stand p l e R s m args below meth c B.U B.locs B.cells B.slots ∧ PostX ⟨T.setVm vm₁, locs, cells, slots⟩ (Value.ref b :: argsL).toArray q B ∧
      Steps p.tables e below (T.setTop g) ((B.U.setTop { g with stack := rest }).pushFrame (.throwing q))) := by
  obtain ⟨mk, methM, hnamed, hmethM, hstM, habM⟩ := Cond.instanceMethod_spec hinst
  obtain ⟨m8, methM', cM, hn8, hmethM', -, -, -, -, -, -, hsigM⟩ := Cond.codeWith_spec hcode
  cases Option.some.inj (hn8.symm.trans hnamed)
  cases hmethM.symm.trans hmethM'
  obtain ⟨c2, r2, m2, q1, q2, q3, q4, kP, hkP, hkPi⟩ := Cond.selects_spec hsel
  cases hcls.symm.trans q1
  cases (State.methodFound?_of_named hnamed hy).symm.trans q2
  cases hnamed.symm.trans q3
  have hselP : selectMethod e.platform s.vm cellB.cls mk = .method mk := by rw [Launch.admits_selectMethod X.admits]; exact q4
  obtain ⟨vm₁, X₁, hstep₁⟩ := X.invokevirtual hexec hown hlink hnamed hmethM hstM hkP hkPi hy (a := b) (cell := cellB) hcell
    (fun z h => by rw [h] at hobj; cases hobj) hselP hmethM habM hkP hkPi (g := g) hg (argsL := argsL) (rest := rest) (hlen _ hsigM) hstack hdg
  rcases hK m meth c ⟨T.setVm vm₁, locs, cells, slots⟩ { g with stack := rest } (.invokevirtual index) mk (Value.ref b :: argsL).toArray X₁ hg hsize hdg hW (X₁.named hnamed) (hpre vm₁ X₁.warmed) with ⟨v, B, X', hpost, hsteps⟩ | ⟨q, B, X', hpost, hsteps⟩
  · exact Or.inl ⟨v, vm₁, B, X₁.warmed, X', hpost, fun target h => hstep₁ _ fun acts => by rw [doInvoke_state]; exact hsteps.trans h⟩
  · exact Or.inr ⟨q, vm₁, B, X₁.warmed, X', hpost, hstep₁ _ fun acts => by rw [doInvoke_state]; exact hsteps⟩
theorem vx_callSX (X : Stand p l e R s m args below meth c T locs cells slots) (hexec : p.tables.exec = Jvm.exec) {own : String} {index : Nat} {y : MethodName} {bytes : ByteArray} {maxL : Nat} {ret : Option FieldType} {hh : List (Nat × Nat × Nat × Nat)}
    (hown : s.vm.findClass own = some m.cls) (hlink : (Cond.methodLink own index y).before args s = true) (hstat : (Cond.static y).before args s = true) (hinit : (Cond.initialized y.cls).before args s = true)
    (hcode : (Cond.codeWith y bytes maxL ret hh).before args s = true) (hy : y.cls ≠ "java/lang/invoke/MethodHandle" ∧ y.cls ≠ "java/lang/invoke/VarHandle")
    {W9 : Nat} {Pre : Pt → Array Value → Prop} {Post : Pt → Array Value → Option Value → Pt → Prop} {PostX : Pt → Array Value → Addr → Pt → Prop} (hK : vx_Back l R p e below s args y 3 W9 Pre Post PostX)
    {g : JFrame} (hg : g.method = m) (hsize : g.locals.size = c.maxLocals) {argsL rest : List Value} (hlen : ∀ sig, parseMethodDescriptor y.desc = some sig → argsL.length = sig.parameters.length)
    (hstack : g.stack = argsL.reverse ++ rest) (hW : 2 * g.monitorRoom + (rest.map fun v => v.category).sum ≤ W9) (hdg : decode c.code g.pc = .ok (.invokestatic index, 3))
    (hpre : ∀ vm₁, s.WarmedH vm₁ → Pre ⟨T.setVm vm₁, locs, cells, slots⟩ argsL.toArray) :
    (∃ (v : Option Value) (vm₁ : Vm) (B : Pt), s.WarmedH vm₁ ∧ Stand p l e R s m args below meth c B.U B.locs B.cells B.slots ∧ Post ⟨T.setVm vm₁, locs, cells, slots⟩ argsL.toArray v B ∧
      ∀ target, Steps p.tables e below (B.U.setTop { g with pc := g.pc + 3, stack := v.toList ++ rest }) target → Steps p.tables e below (T.setTop g) target) ∨
    (∃ (q : Addr) (vm₁ : Vm) (B : Pt), s.WarmedH vm₁ ∧ Stand p l e R s m args below meth c B.U B.locs B.cells B.slots ∧ PostX ⟨T.setVm vm₁, locs, cells, slots⟩ argsL.toArray q B ∧
      Steps p.tables e below (T.setTop g) ((B.U.setTop { g with stack := rest }).pushFrame (.throwing q))) := by
  obtain ⟨mk, methM, cM, hnamed, hmethM, -, -, -, -, -, -, hsigM⟩ := Cond.codeWith_spec hcode
  have hstatic : methM.isStatic = true := Cond.static_spec hnamed hmethM hstat
  obtain ⟨kP, hkP, -⟩ := className_of_methodNamed hnamed
  have hinitP : kP.init = .initialized := Cond.initialized_spec (findClass_of_methodNamed hnamed) hkP hinit
  obtain ⟨vm₁, X₁, hstep₁⟩ := X.invokestatic hexec hown hlink hnamed hmethM hstatic hkP hinitP hy (g := g) hg (argsL := argsL) (rest := rest) (hlen _ hsigM) hstack hdg
  rcases hK m meth c ⟨T.setVm vm₁, locs, cells, slots⟩ { g with stack := rest } (.invokestatic index) mk argsL.toArray X₁ hg hsize hdg hW (X₁.named hnamed) (hpre vm₁ X₁.warmed) with ⟨v, B, X', hpost, hsteps⟩ | ⟨q, B, X', hpost, hsteps⟩
  · exact Or.inl ⟨v, vm₁, B, X₁.warmed, X', hpost, fun target h => hstep₁ _ fun acts => by rw [doInvoke_state]; exact hsteps.trans h⟩
  · exact Or.inr ⟨q, vm₁, B, X₁.warmed, X', hpost, hstep₁ _ fun acts => by rw [doInvoke_state]; exact hsteps⟩
theorem vx_callVW (X : Stand p l e R s m args below meth c T locs cells slots) (hexec : p.tables.exec = Jvm.exec) {own C : String} {index : Nat} {y : MethodName} {bytes : ByteArray} {maxL : Nat} {ret : Option FieldType} {hh : List (Nat × Nat × Nat × Nat)}
    (hown : s.vm.findClass own = some m.cls) (hlink : (Cond.methodLink own index y).before args s = true) (hinst : (Cond.instanceMethod y).before args s = true) (hsel : (Cond.selects C y y).before args s = true)
    (hcode : (Cond.codeWith y bytes maxL ret hh).before args s = true) (hy : y.cls ≠ "java/lang/invoke/MethodHandle" ∧ y.cls ≠ "java/lang/invoke/VarHandle")
    {W9 : Nat} {Pre : Pt → Array Value → Prop} {Post : Pt → Array Value → Option Value → Pt → Prop} (hK : Back l R p e below s args y 3 W9 Pre Post)
    {b : Addr} {cellB : Cell} (hcell : T.heap[b]? = some cellB) (hobj : cellB.vm.isStatics = false) (hcls : s.vm.findClass C = some cellB.cls)
    {g : JFrame} (hg : g.method = m) (hsize : g.locals.size = c.maxLocals) {argsL rest : List Value} (hlen : ∀ sig, parseMethodDescriptor y.desc = some sig → argsL.length = sig.parameters.length)
    (hstack : g.stack = argsL.reverse ++ .ref b :: rest) (hW : 2 * g.monitorRoom + (rest.map fun v => v.category).sum ≤ W9) (hdg : decode c.code g.pc = .ok (.invokevirtual index, 3))
    (hpre : ∀ vm₁, s.WarmedH vm₁ → Pre ⟨T.setVm vm₁, locs, cells, slots⟩ (Value.ref b :: argsL).toArray) :
    ∃ (v : Option Value) (vm₁ : Vm) (B : Pt), s.WarmedH vm₁ ∧ Stand p l e R s m args below meth c B.U B.locs B.cells B.slots ∧ Post ⟨T.setVm vm₁, locs, cells, slots⟩ (Value.ref b :: argsL).toArray v B ∧
      ∀ target, Steps p.tables e below (B.U.setTop { g with pc := g.pc + 3, stack := v.toList ++ rest }) target → Steps p.tables e below (T.setTop g) target := by
  obtain ⟨mk, methM, hnamed, hmethM, hstM, habM⟩ := Cond.instanceMethod_spec hinst
  obtain ⟨m8, methM', cM, hn8, hmethM', -, -, -, -, -, -, hsigM⟩ := Cond.codeWith_spec hcode
  cases Option.some.inj (hn8.symm.trans hnamed)
  cases hmethM.symm.trans hmethM'
  obtain ⟨c2, r2, m2, q1, q2, q3, q4, kP, hkP, hkPi⟩ := Cond.selects_spec hsel
  cases hcls.symm.trans q1
  cases (State.methodFound?_of_named hnamed hy).symm.trans q2
  cases hnamed.symm.trans q3
  have hselP : selectMethod e.platform s.vm cellB.cls mk = .method mk := by rw [Launch.admits_selectMethod X.admits]; exact q4
  obtain ⟨vm₁, X₁, hstep₁⟩ := X.invokevirtual hexec hown hlink hnamed hmethM hstM hkP hkPi hy (a := b) (cell := cellB) hcell
    (fun z h => by rw [h] at hobj; cases hobj) hselP hmethM habM hkP hkPi (g := g) hg (argsL := argsL) (rest := rest) (hlen _ hsigM) hstack hdg
  obtain ⟨v, B, X', hpost, hsteps⟩ := hK m meth c ⟨T.setVm vm₁, locs, cells, slots⟩ { g with stack := rest } (.invokevirtual index) mk (Value.ref b :: argsL).toArray X₁ hg hsize hdg hW (X₁.named hnamed) (hpre vm₁ X₁.warmed)
  exact ⟨v, vm₁, B, X₁.warmed, X', hpost, fun target h => hstep₁ _ fun acts => by rw [doInvoke_state]; exact hsteps.trans h⟩
abbrev vx_CVW (R : Room) (s : State) (args : Array Value) (own C : String) (index : Nat) (y : MethodName) (bytes : ByteArray) (maxL : Nat) (ret : Option FieldType) (hh : List (Nat × Nat × Nat × Nat)) (ws : List Cond) (rm : Room) (mc ms n : Nat) : Prop :=
  (rm.cells = mc ∧ rm.slots = ms ∧ rm.frames + 1 ≤ R.frames ∧ 8 + (maxL + 11) + rm.locals ≤ R.locals ∧ (∀ w ∈ ws, ∀ (a' : Array Value) (U : State), s.WarmedH U.vm → w.before a' U = true) ∧ Cond.codeWith y bytes maxL ret hh ∈ ws) ∧
  (Cond.codeWith y bytes maxL ret hh).before args s = true ∧ (Cond.initialized y.cls).before args s = true ∧ (y.cls ≠ "java/lang/invoke/MethodHandle" ∧ y.cls ≠ "java/lang/invoke/VarHandle") ∧
  (∀ sig, parseMethodDescriptor y.desc = some sig → n = sig.parameters.length) ∧ (Cond.methodLink own index y).before args s = true ∧ (Cond.instanceMethod y).before args s = true ∧ (Cond.selects C y y).before args s = true
theorem vx_cwVW {own C : String} {index maxL mc ms : Nat} {y : MethodName} {bytes : ByteArray} {ret : Option FieldType} {hh : List (Nat × Nat × Nat × Nat)} {Ts ws ws' : List Cond} {rm : Room} (n : Nat) (ht : ∀ w ∈ Ts, w.before args s = true) (hT : GoodIn Ts (wsV own index C y ws)) (hw : ws = Cond.codeWith y bytes maxL ret hh :: ws') (hrc : rm.cells = mc) (hrs : rm.slots = ms)
    (hd : y.cls = C ∧ y.cls ≠ "java/lang/invoke/MethodHandle" ∧ y.cls ≠ "java/lang/invoke/VarHandle" ∧ (parseMethodDescriptor y.desc).map (fun d => d.parameters.length) = some n) (hR : rm.frames + 1 ≤ R.frames ∧ 8 + (maxL + 11) + rm.locals ≤ R.locals) :
    vx_CVW R s args own C index y bytes maxL ret hh ws rm mc ms n := by
  obtain ⟨hC, hd⟩ := hd
  subst hC
  have ok : ∀ w ∈ wsV own index y.cls y ws, w.before args s = true := fun w h => ht w (hT w h).1
  have hG : GoodIn Ts ws := fun w h => hT w (by unfold wsV; exact List.mem_append_right _ h)
  have hc : Cond.codeWith y bytes maxL ret hh ∈ ws := by rw [hw]; exact List.mem_cons_self
  refine ⟨⟨hrc, hrs, hR.1, hR.2, pay_in ht hG, hc⟩, ht _ (hG _ hc).1, ok _ (by simp [wsV]), ⟨hd.1, hd.2.1⟩, fun sig h => ?_, ok _ (by simp [wsV]), ok _ (by simp [wsV]), ok _ (by simp [wsV])⟩
  have h2 := hd.2.2
  rw [h] at h2
  exact (Option.some.inj h2).symm
theorem vx_runVW {y : MethodName} {bytes cc : ByteArray} {maxL nL mc ms n index : Nat} {ret : Option FieldType} {hh : List (Nat × Nat × Nat × Nat)} {ws : List Cond} {rm : Room} {Pc : Array Value → State → Prop} {Qc : Array Value → State → Outcome → State → Prop} {free : Addr → Prop} {Ts : List Cond} {own C : String} {b : Addr} {As rest : List Value} {g : JFrame}
    (S : CallFix p m c cc nL s args Ts own) (hM : Met l y ws rm Pc Qc mc ms free) (cw : vx_CVW R s args own C index y bytes maxL ret hh ws rm mc ms n) (hp : PreV s H C b Pc As)
    (hg : g.method = m) (hn : As.length = n) (hsize : g.locals.size = nL) (hstack : g.stack = As.reverse ++ .ref b :: rest) (hW : 2 * g.monitorRoom + (rest.map fun v => v.category).sum ≤ 8) (hdg : decode cc g.pc = .ok (.invokevirtual index, 3)) (hf : cells + mc ≤ R.cells ∧ slots + ms ≤ R.slots) :
    va_Run p l e R s m args below meth c H locs cells slots mc ms g rest (Qc (Value.ref b :: As).toArray) free := by
  obtain ⟨⟨hrc, hrs, hfr, hlo, hws, hcw⟩, hcode, hini, hy, hlen, hl, hin, hse⟩ := cw
  have hK : Back l R p e below s args y 3 8 (PreOf R mc ms Pc) (PostOf Qc mc ms free) := va_backW (hh := hh) (bytes := bytes) (maxL := maxL) (ret := ret) hM hp.1 hrc hrs hfr hlo hws hcw (fun a' U hW => word_at hW (Or.inl (by first | rfl | simp [Cond.onTables, Cond.keeps, Cond.steady])) hini)
  obtain ⟨hx, hb, hml, ho, -⟩ := S
  obtain ⟨-, ⟨cellB, hcB, hoB, hclB⟩, hPc⟩ := hp
  intro T hT X
  obtain ⟨v, vm₁, ⟨U', l2, c2, s2⟩, hW₁, X', ⟨g', mk, t, L, e1, e2, hq, h1, hL, h2, h3⟩, st⟩ := vx_callVW X hx (C := C) (hh := hh) (bytes := bytes) (maxL := maxL) (ret := ret) ho hl hin hse hcode hy hK (by rw [hT]; exact hcB) hoB hclB hg (hsize.trans hml.symm) (argsL := As) (rest := rest) (fun sig h => hn.trans (hlen sig h)) hstack hW (by rw [hb]; exact hdg)
    (fun vm₁ hW₁ => ⟨hf.1, hf.2, hPc (T.setVm vm₁) hT hW₁⟩)
  dsimp only [Pt.U, Pt.locs, Pt.cells, Pt.slots] at X' e1 e2 h1 h2 h3 st
  subst h1; subst h2; subst h3
  exact ⟨v, (T.setVm vm₁).calling g' mk (Value.ref b :: As).toArray, t, U', L, hT, X', hL, e1, e2, hq, st⟩
section
variable {y : MethodName} {bytes cc : ByteArray} {maxL nL mc ms n index : Nat} {ret : Option FieldType} {ws : List Cond} {rm : Room} {Pc : Array Value → State → Prop} {Qc : Array Value → State → Outcome → State → Prop} {XC : String → State → State → Prop} {free : Addr → Prop} {Ts : List Cond} {own C : String} {b : Addr} {As rest : List Value} {g : JFrame}
theorem vx_runVX {hh : List (Nat × Nat × Nat × Nat)} (S : CallFix p m c cc nL s args Ts own) (hM : vx_Met l y ws rm Pc Qc XC mc ms free) (cw : vx_CVW R s args own C index y bytes maxL ret hh ws rm mc ms n) (hp : PreV s H C b Pc As)
    (hg : g.method = m) (hn : As.length = n) (hsize : g.locals.size = nL) (hstack : g.stack = As.reverse ++ .ref b :: rest) (hW : 2 * g.monitorRoom + (rest.map fun v => v.category).sum ≤ 8) (hdg : decode cc g.pc = .ok (.invokevirtual index, 3)) (hf : cells + mc ≤ R.cells ∧ slots + ms ≤ R.slots) :
    vx_Run p l e R s m args below meth c H locs cells slots mc ms g rest (Qc (Value.ref b :: As).toArray) XC free := by
  obtain ⟨⟨hrc, hrs, hfr, hlo, hws, hcw⟩, hcode, hini, hy, hlen, hl, hin, hse⟩ := cw
  have hK : vx_Back l R p e below s args y 3 8 (PreOf R mc ms Pc) (PostOf Qc mc ms free) (vx_Post XC mc ms free) := vx_backW (hh := hh) (bytes := bytes) (maxL := maxL) (ret := ret) hM hp.1 hrc hrs hfr hlo hws hcw (fun a' U hW => word_at hW (Or.inl (by first | rfl | simp [Cond.onTables, Cond.keeps, Cond.steady])) hini)
  obtain ⟨hx, hb, hml, ho, -⟩ := S
  obtain ⟨-, ⟨cellB, hcB, hoB, hclB⟩, hPc⟩ := hp
  intro T hT X
  rcases vx_callVX X hx (C := C) (hh := hh) (bytes := bytes) (maxL := maxL) (ret := ret) ho hl hin hse hcode hy hK (by rw [hT]; exact hcB) hoB hclB hg (hsize.trans hml.symm) (argsL := As) (rest := rest) (fun sig h => hn.trans (hlen sig h)) hstack hW (by rw [hb]; exact hdg)
    (fun vm₁ hW₁ => ⟨hf.1, hf.2, hPc (T.setVm vm₁) hT hW₁⟩) with ⟨v, vm₁, ⟨U', l2, c2, s2⟩, hW₁, X', ⟨g', mk, t, L, e1, e2, hq, h1, hL, h2, h3⟩, st⟩ | ⟨q, vm₁, ⟨U', l2, c2, s2⟩, hW₁, X', ⟨g', mk, t, L, E, ce, e1, e2, hq, hce, hcv, hcl, h1, hL, h2, h3⟩, st⟩
  · dsimp only [Pt.U, Pt.locs, Pt.cells, Pt.slots] at X' e1 e2 h1 h2 h3 st
    subst h1; subst h2; subst h3
    exact Or.inl ⟨v, (T.setVm vm₁).calling g' mk (Value.ref b :: As).toArray, t, U', L, hT, X', hL, e1, e2, hq, st⟩
  · dsimp only [Pt.U, Pt.locs, Pt.cells, Pt.slots] at X' e1 e2 h1 h2 h3 st hcl
    subst h1; subst h2; subst h3
    exact Or.inr ⟨q, (T.setVm vm₁).calling g' mk (Value.ref b :: As).toArray, t, U', L, E, ce, hT, X', hL, e1, e2, hq, hce, hcv, vx_cls hW₁ hcl, st⟩
theorem vx_runSX {hh : List (Nat × Nat × Nat × Nat)} (S : CallFix p m c cc nL s args Ts own) (hM : vx_Met l y ws rm Pc Qc XC mc ms free) (cw : vx_CSW R s args own index y bytes maxL ret hh ws rm mc ms n) (hp : PreS s H Pc As)
    (hg : g.method = m) (hn : As.length = n) (hsize : g.locals.size = nL) (hstack : g.stack = As.reverse ++ rest) (hW : 2 * g.monitorRoom + (rest.map fun v => v.category).sum ≤ 8) (hdg : decode cc g.pc = .ok (.invokestatic index, 3)) (hf : cells + mc ≤ R.cells ∧ slots + ms ≤ R.slots) :
    vx_Run p l e R s m args below meth c H locs cells slots mc ms g rest (Qc As.toArray) XC free := by
  obtain ⟨⟨hrc, hrs, hfr, hlo, hws, hcw⟩, hcode, hini, hy, hlen, hl, hstt⟩ := cw
  have hK : vx_Back l R p e below s args y 3 8 (PreOf R mc ms Pc) (PostOf Qc mc ms free) (vx_Post XC mc ms free) := vx_backW (hh := hh) (bytes := bytes) (maxL := maxL) (ret := ret) hM hp.1 hrc hrs hfr hlo hws hcw (fun a' U hW => word_at hW (Or.inl (by first | rfl | simp [Cond.onTables, Cond.keeps, Cond.steady])) hini)
  obtain ⟨hx, hb, hml, ho, -⟩ := S
  intro T hT X
  rcases vx_callSX X hx (hh := hh) (bytes := bytes) (maxL := maxL) (ret := ret) ho hl hstt hini hcode hy hK hg (hsize.trans hml.symm) (argsL := As) (rest := rest) (fun sig h => hn.trans (hlen sig h)) hstack hW (by rw [hb]; exact hdg)
    (fun vm₁ hW₁ => ⟨hf.1, hf.2, hp.2 (T.setVm vm₁) hT hW₁⟩) with ⟨v, vm₁, ⟨U', l2, c2, s2⟩, hW₁, X', ⟨g', mk, t, L, e1, e2, hq, h1, hL, h2, h3⟩, st⟩ | ⟨q, vm₁, ⟨U', l2, c2, s2⟩, hW₁, X', ⟨g', mk, t, L, E, ce, e1, e2, hq, hce, hcv, hcl, h1, hL, h2, h3⟩, st⟩
  · dsimp only [Pt.U, Pt.locs, Pt.cells, Pt.slots] at X' e1 e2 h1 h2 h3 st
    subst h1; subst h2; subst h3
    exact Or.inl ⟨v, (T.setVm vm₁).calling g' mk As.toArray, t, U', L, hT, X', hL, e1, e2, hq, st⟩
  · dsimp only [Pt.U, Pt.locs, Pt.cells, Pt.slots] at X' e1 e2 h1 h2 h3 st hcl
    subst h1; subst h2; subst h3
    exact Or.inr ⟨q, (T.setVm vm₁).calling g' mk As.toArray, t, U', L, E, ce, hT, X', hL, e1, e2, hq, hce, hcv, vx_cls hW₁ hcl, st⟩
end
end VXH
theorem vx_ofWH {l : Launch} {y : MethodName} {ws ws' : List Cond} {rm : Room} {Pc : Array Value → State → Prop} {Qc : Array Value → State → Outcome → State → Prop} {XC : String → State → State → Prop} {mc ms : Nat} {free : Addr → Prop} {cc : ByteArray} {maxL : Nat} {ret : Option FieldType} {hh : List (Nat × Nat × Nat × Nat)}
    (hy : plainName y.cls = true) (hw : ws = Cond.codeWith y cc maxL ret hh :: ws')
    (body : ∀ p e s m args below meth c s₁, BodyLoose p l y (headSpec ws rm) cc maxL ret e s m args below meth c s₁ → c.maxLocals = maxL → Pc args s →
      W p l e (headSpec ws rm).room s m args below meth c s.heap [] 0 0 (vx_MQ below Qc XC args s mc ms free) (entryFrame m args maxL)) : vx_Met l y ws rm Pc Qc XC mc ms free := by
  refine MetFree.of_bodyS (code := cc) (maxLocals := maxL) (ret := ret) hy ?_ ?_
  · intro args s m h hn
    obtain ⟨m9, meth, c, hn9, h1, h2, h3, h4, -, h5, h6, -⟩ := Cond.codeWith_spec (atoms_spec (ws := ws) h _ (by rw [hw]; exact List.mem_cons_self))
    cases hn.symm.trans hn9
    exact ⟨meth, c, h1, h2, h3, h4, h5, h6⟩
  · intro p e s m args below meth c s₁ B hml hP _
    have hh0 : s₁.heap = s.heap := by rw [B.state]; rfl
    obtain ⟨t, a1, o, b1, b2, b3⟩ := body p e s m args below meth c s₁ B hml hP s₁ hh0 (Stand.of_body B)
    exact ⟨t, o, a1, b1, b2, b3⟩
/-! ===== END ===== -/
end
section
/-! ===== printed names, fields ===== -/
def RX0 : String := "Hearingpay$Hearing"
def TX0 : u_T := fun k => match k with
  | 0 => ("Hearingpay$Hearing", "number", "I", true)
  | 1 => ("Hearingpay$Hearing", "matter", "LHearingpay$Matter;", true)
  | 2 => ("Hearingpay$Hearing", "hours", "I", true)
  | 3 => ("Hearingpay$Hearing", "charges", "[I", true)
  | 4 => ("Hearingpay$Hearing", "state", "I", false)
  | 5 => ("Hearingpay$Hearing", "room", "I", false)
  | 6 => ("Hearingpay$Hearing", "interpreter", "I", false)
  | 7 => ("Hearingpay$Hearing", "from", "I", false)
  | 8 => ("Hearingpay$Hearing", "isFirstTold", "Z", false)
  | _ => ("Hearingpay$Hearing", "isSecondTold", "Z", false)
def tyX0 : Nat → FieldType := fun k => match k with
  | 0 => .int
  | 1 => .object "Hearingpay$Matter"
  | 2 => .int
  | 3 => .array .int
  | 4 => .int
  | 5 => .int
  | 6 => .int
  | 7 => .int
  | 8 => .boolean
  | _ => .boolean
abbrev wsX00 : List Cond := u_ws RX0 TX0 10
theorem nmX0 : ∀ a, a < 10 → ∀ b, b < 10 → a ≠ b → (TX0 a).2.1 ≠ (TX0 b).2.1 := by decide +kernel
theorem tyX0_ok : ∀ k, k < 10 → parseFieldDescriptor (TX0 k).2.2.1 = some (tyX0 k) := by decide +kernel
abbrev cX0_init : ByteArray := prog_2_method_1_code
def yX0_init : MethodName := ⟨RX0, "<init>", "(ILHearingpay$Matter;I)V"⟩
abbrev cX0_settleAt : ByteArray := prog_2_method_2_code
def yX0_settleAt : MethodName := ⟨RX0, "settleAt", "(III)V"⟩
abbrev cX0_takesPartOf : ByteArray := prog_2_method_3_code
def yX0_takesPartOf : MethodName := ⟨RX0, "takesPartOf", "(II)Z"⟩
abbrev cX0_needs : ByteArray := prog_2_method_4_code
def yX0_needs : MethodName := ⟨RX0, "needs", "(II)Z"⟩
abbrev cX0_reasonAgainst : ByteArray := prog_2_method_5_code
def yX0_reasonAgainst : MethodName := ⟨RX0, "reasonAgainst", "(LHearingpay$Matter;II)I"⟩
abbrev cX0_tell : ByteArray := prog_2_method_6_code
def yX0_tell : MethodName := ⟨RX0, "tell", "(I)V"⟩
abbrev cX0_notices : ByteArray := prog_2_method_7_code
def yX0_notices : MethodName := ⟨RX0, "notices", "()I"⟩
abbrev cX0_charged : ByteArray := prog_2_method_8_code
def yX0_charged : MethodName := ⟨RX0, "charged", "()I"⟩
abbrev cX0_end : ByteArray := prog_2_method_9_code
def yX0_end : MethodName := ⟨RX0, "end", "()V"⟩
def RX1 : String := "Hearingpay$Interpreter"
def TX1 : u_T := fun k => match k with
  | 0 => ("Hearingpay$Interpreter", "languages", "I", false)
  | 1 => ("Hearingpay$Interpreter", "price", "I", false)
  | 2 => ("Hearingpay$Interpreter", "paidHours", "[I", true)
  | 3 => ("Hearingpay$Interpreter", "payers", "[LHearingpay$Matter;", true)
  | _ => ("Hearingpay$Interpreter", "amounts", "[I", true)
def tyX1 : Nat → FieldType := fun k => match k with
  | 0 => .int
  | 1 => .int
  | 2 => .array .int
  | 3 => .array (.object "Hearingpay$Matter")
  | _ => .array .int
abbrev wsX10 : List Cond := u_ws RX1 TX1 5
theorem nmX1 : ∀ a, a < 5 → ∀ b, b < 5 → a ≠ b → (TX1 a).2.1 ≠ (TX1 b).2.1 := by decide +kernel
theorem tyX1_ok : ∀ k, k < 5 → parseFieldDescriptor (TX1 k).2.2.1 = some (tyX1 k) := by decide +kernel
abbrev cX1_init : ByteArray := prog_3_method_1_code
def yX1_init : MethodName := ⟨RX1, "<init>", "()V"⟩
abbrev cX1_placeOf : ByteArray := prog_3_method_2_code
def yX1_placeOf : MethodName := ⟨RX1, "placeOf", "(I)I"⟩
abbrev cX1_knows : ByteArray := prog_3_method_3_code
def yX1_knows : MethodName := ⟨RX1, "knows", "(I)Z"⟩
abbrev cX1_payer : ByteArray := prog_3_method_4_code
def yX1_payer : MethodName := ⟨RX1, "payer", "(II)LHearingpay$Matter;"⟩
abbrev cX1_keep : ByteArray := prog_3_method_5_code
def yX1_keep : MethodName := ⟨RX1, "keep", "(ILHearingpay$Matter;I)V"⟩
abbrev cX1_take : ByteArray := prog_3_method_6_code
def yX1_take : MethodName := ⟨RX1, "take", "(IILHearingpay$Matter;)I"⟩
abbrev cX1_hoursPaidBy : ByteArray := prog_3_method_7_code
def yX1_hoursPaidBy : MethodName := ⟨RX1, "hoursPaidBy", "(LHearingpay$Matter;I)I"⟩
def RX2 : String := "Hearingpay$Matter"
def TX2 : u_T := fun k => match k with
  | 0 => ("Hearingpay$Matter", "number", "I", true)
  | 1 => ("Hearingpay$Matter", "judge", "I", true)
  | 2 => ("Hearingpay$Matter", "first", "I", true)
  | 3 => ("Hearingpay$Matter", "second", "I", true)
  | 4 => ("Hearingpay$Matter", "language", "I", true)
  | 5 => ("Hearingpay$Matter", "state", "I", false)
  | 6 => ("Hearingpay$Matter", "balance", "I", false)
  | _ => ("Hearingpay$Matter", "end", "I", false)
def tyX2 : Nat → FieldType := fun k => match k with
  | 0 => .int
  | 1 => .int
  | 2 => .int
  | 3 => .int
  | 4 => .int
  | 5 => .int
  | 6 => .int
  | _ => .int
abbrev wsX20 : List Cond := u_ws RX2 TX2 8
theorem nmX2 : ∀ a, a < 8 → ∀ b, b < 8 → a ≠ b → (TX2 a).2.1 ≠ (TX2 b).2.1 := by decide +kernel
theorem tyX2_ok : ∀ k, k < 8 → parseFieldDescriptor (TX2 k).2.2.1 = some (tyX2 k) := by decide +kernel
abbrev cX2_init : ByteArray := prog_4_method_1_code
def yX2_init : MethodName := ⟨RX2, "<init>", "(IIIIII)V"⟩
abbrev cX2_isOpen : ByteArray := prog_4_method_2_code
def yX2_isOpen : MethodName := ⟨RX2, "isOpen", "()Z"⟩
abbrev cX2_isOf : ByteArray := prog_4_method_3_code
def yX2_isOf : MethodName := ⟨RX2, "isOf", "(I)Z"⟩
abbrev cX2_runTerm : ByteArray := prog_4_method_4_code
def yX2_runTerm : MethodName := ⟨RX2, "runTerm", "(I)V"⟩
def RX3 : String := "Hearingpay"
def TX3 : u_T := fun k => match k with
  | 0 => ("Hearingpay", "interpreters", "[LHearingpay$Interpreter;", true)
  | 1 => ("Hearingpay", "waived", "[Z", true)
  | 2 => ("Hearingpay", "matters", "[LHearingpay$Matter;", true)
  | 3 => ("Hearingpay", "hearings", "[LHearingpay$Hearing;", true)
  | 4 => ("Hearingpay", "matterCount", "I", false)
  | 5 => ("Hearingpay", "hearingCount", "I", false)
  | _ => ("Hearingpay", "now", "I", false)
def tyX3 : Nat → FieldType := fun k => match k with
  | 0 => .array (.object "Hearingpay$Interpreter")
  | 1 => .array .boolean
  | 2 => .array (.object "Hearingpay$Matter")
  | 3 => .array (.object "Hearingpay$Hearing")
  | 4 => .int
  | 5 => .int
  | _ => .int
abbrev wsX30 : List Cond := u_ws RX3 TX3 7
theorem nmX3 : ∀ a, a < 7 → ∀ b, b < 7 → a ≠ b → (TX3 a).2.1 ≠ (TX3 b).2.1 := by decide +kernel
theorem tyX3_ok : ∀ k, k < 7 → parseFieldDescriptor (TX3 k).2.2.1 = some (tyX3 k) := by decide +kernel
abbrev cX3_init : ByteArray := prog_1_method_1_code
def yX3_init : MethodName := ⟨RX3, "<init>", "()V"⟩
abbrev cX3_interpreter : ByteArray := prog_1_method_2_code
def yX3_interpreter : MethodName := ⟨RX3, "interpreter", "(III)I"⟩
abbrev cX3_waive : ByteArray := prog_1_method_3_code
def yX3_waive : MethodName := ⟨RX3, "waive", "(IZ)Z"⟩
abbrev cX3_file : ByteArray := prog_1_method_4_code
def yX3_file : MethodName := ⟨RX3, "file", "(IIII)I"⟩
abbrev cX3_pay : ByteArray := prog_1_method_5_code
def yX3_pay : MethodName := ⟨RX3, "pay", "(II)I"⟩
abbrev cX3_decide : ByteArray := prog_1_method_6_code
def yX3_decide : MethodName := ⟨RX3, "decide", "(I)I"⟩
abbrev cX3_appeal : ByteArray := prog_1_method_7_code
def yX3_appeal : MethodName := ⟨RX3, "appeal", "(I)I"⟩
abbrev cX3_settle : ByteArray := prog_1_method_8_code
def yX3_settle : MethodName := ⟨RX3, "settle", "(IZ)I"⟩
abbrev cX3_close : ByteArray := prog_1_method_9_code
def yX3_close : MethodName := ⟨RX3, "close", "(I)I"⟩
abbrev cX3_plan : ByteArray := prog_1_method_10_code
def yX3_plan : MethodName := ⟨RX3, "plan", "(IIIII)I"⟩
abbrev cX3_move : ByteArray := prog_1_method_11_code
def yX3_move : MethodName := ⟨RX3, "move", "(IIII)I"⟩
abbrev cX3_drop : ByteArray := prog_1_method_12_code
def yX3_drop : MethodName := ⟨RX3, "drop", "(I)I"⟩
abbrev cX3_notice : ByteArray := prog_1_method_13_code
def yX3_notice : MethodName := ⟨RX3, "notice", "(II)Z"⟩
abbrev cX3_pass : ByteArray := prog_1_method_14_code
def yX3_pass : MethodName := ⟨RX3, "pass", "(I)I"⟩
abbrev cX3_clash : ByteArray := prog_1_method_15_code
def yX3_clash : MethodName := ⟨RX3, "clash", "(IIIII)I"⟩
abbrev cX3_at : ByteArray := prog_1_method_16_code
def yX3_at : MethodName := ⟨RX3, "at", "(III)I"⟩
abbrev cX3_about : ByteArray := prog_1_method_17_code
def yX3_about : MethodName := ⟨RX3, "about", "(II)I"⟩
abbrev cX3_hearing : ByteArray := prog_1_method_18_code
def yX3_hearing : MethodName := ⟨RX3, "hearing", "(II)I"⟩
abbrev cX3_paidBy : ByteArray := prog_1_method_19_code
def yX3_paidBy : MethodName := ⟨RX3, "paidBy", "(II)I"⟩
abbrev cX3_balances : ByteArray := prog_1_method_20_code
def yX3_balances : MethodName := ⟨RX3, "balances", "()I"⟩
abbrev cX3_hour : ByteArray := prog_1_method_21_code
def yX3_hour : MethodName := ⟨RX3, "hour", "()I"⟩
abbrev cX3_isIn : ByteArray := prog_1_method_22_code
def yX3_isIn : MethodName := ⟨RX3, "isIn", "(II)Z"⟩
abbrev cX3_isInOrNone : ByteArray := prog_1_method_23_code
def yX3_isInOrNone : MethodName := ⟨RX3, "isInOrNone", "(II)Z"⟩
abbrev cX3_isCalendarHour : ByteArray := prog_1_method_24_code
def yX3_isCalendarHour : MethodName := ⟨RX3, "isCalendarHour", "(I)Z"⟩
abbrev cX3_howMany : ByteArray := prog_1_method_25_code
def yX3_howMany : MethodName := ⟨RX3, "howMany", "(I)I"⟩
abbrev cX3_interpreterAt : ByteArray := prog_1_method_26_code
def yX3_interpreterAt : MethodName := ⟨RX3, "interpreterAt", "(I)LHearingpay$Interpreter;"⟩
abbrev cX3_matterAt : ByteArray := prog_1_method_27_code
def yX3_matterAt : MethodName := ⟨RX3, "matterAt", "(I)LHearingpay$Matter;"⟩
abbrev cX3_hearingAt : ByteArray := prog_1_method_28_code
def yX3_hearingAt : MethodName := ⟨RX3, "hearingAt", "(I)LHearingpay$Hearing;"⟩
abbrev cX3_isToBegin : ByteArray := prog_1_method_29_code
def yX3_isToBegin : MethodName := ⟨RX3, "isToBegin", "(LHearingpay$Hearing;)Z"⟩
abbrev cX3_isAsNeeded : ByteArray := prog_1_method_30_code
def yX3_isAsNeeded : MethodName := ⟨RX3, "isAsNeeded", "(LHearingpay$Matter;I)Z"⟩
abbrev cX3_clashReason : ByteArray := prog_1_method_31_code
def yX3_clashReason : MethodName := ⟨RX3, "clashReason", "(LHearingpay$Hearing;LHearingpay$Matter;IIII)I"⟩
abbrev cX3_put : ByteArray := prog_1_method_32_code
def yX3_put : MethodName := ⟨RX3, "put", "(LHearingpay$Hearing;III)V"⟩
abbrev cX3_leave : ByteArray := prog_1_method_33_code
def yX3_leave : MethodName := ⟨RX3, "leave", "(LHearingpay$Hearing;)V"⟩
abbrev cX3_dropAllOf : ByteArray := prog_1_method_34_code
def yX3_dropAllOf : MethodName := ⟨RX3, "dropAllOf", "(LHearingpay$Matter;)I"⟩
abbrev cX3_endHearings : ByteArray := prog_1_method_35_code
def yX3_endHearings : MethodName := ⟨RX3, "endHearings", "()I"⟩
abbrev cX3_runTerms : ByteArray := prog_1_method_36_code
def yX3_runTerms : MethodName := ⟨RX3, "runTerms", "()V"⟩
abbrev cX3_feeFor : ByteArray := prog_1_method_37_code
def yX3_feeFor : MethodName := ⟨RX3, "feeFor", "(LHearingpay$Matter;I)I"⟩
abbrev cX3_paidHoursOf : ByteArray := prog_1_method_38_code
def yX3_paidHoursOf : MethodName := ⟨RX3, "paidHoursOf", "(LHearingpay$Matter;)I"⟩
def RX4 : String := "HearingpayModel"
def TX4 : u_T := fun k => match k with
  | _ => ("", "", "", false)
def tyX4 : Nat → FieldType := fun k => match k with
  | _ => .int
abbrev wsX40 : List Cond := u_ws RX4 TX4 0
theorem nmX4 : ∀ a, a < 0 → ∀ b, b < 0 → a ≠ b → (TX4 a).2.1 ≠ (TX4 b).2.1 := by decide +kernel
theorem tyX4_ok : ∀ k, k < 0 → parseFieldDescriptor (TX4 k).2.2.1 = some (tyX4 k) := by decide +kernel
def RJ0 : String := "java/lang/String"
def RL : String := "HearingpayLaw"
abbrev cL_cell : ByteArray := method_2_code
def yL_cell : MethodName := ⟨RL, "cell", "([II)I"⟩
abbrev cL_low : ByteArray := method_3_code
def yL_low : MethodName := ⟨RL, "low", "(II)I"⟩
abbrev cL_calls : ByteArray := method_4_code
def yL_calls : MethodName := ⟨RL, "calls", "(LHearingpay;IIIIII)I"⟩
abbrev cL_paid : ByteArray := method_5_code
def yL_paid : MethodName := ⟨RL, "paid", "(II[I[I)I"⟩
abbrev cL_keeps : ByteArray := method_6_code
def yL_keeps : MethodName := ⟨RL, "keeps", "(IIII[I[I[I)V"⟩
abbrev cL_speaker : ByteArray := method_7_code
def yL_speaker : MethodName := ⟨RL, "speaker", "(I[I)I"⟩
abbrev cL_leaves : ByteArray := method_8_code
def yL_leaves : MethodName := ⟨RL, "leaves", "(I[I[I[I[I[I[I)V"⟩
abbrev cL_comes : ByteArray := method_9_code
def yL_comes : MethodName := ⟨RL, "comes", "(I[I[I[I[I[I[I[I)V"⟩
abbrev cL_shares : ByteArray := method_10_code
def yL_shares : MethodName := ⟨RL, "shares", "(II[I)Z"⟩
abbrev cL_clash : ByteArray := method_11_code
def yL_clash : MethodName := ⟨RL, "clash", "(IIIIII[I[I[I)I"⟩
abbrev cL_fits : ByteArray := method_12_code
def yL_fits : MethodName := ⟨RL, "fits", "(II[I[I)Z"⟩
abbrev cL_hour : ByteArray := method_13_code
def yL_hour : MethodName := ⟨RL, "hour", "([I[I[I)I"⟩
abbrev cL_plans : ByteArray := method_14_code
def yL_plans : MethodName := ⟨RL, "plans", "(LHearingpay;II[I[I[I[I[I[I[I)Z"⟩
abbrev cL_matters : ByteArray := method_15_code
def yL_matters : MethodName := ⟨RL, "matters", "(LHearingpay;II[I[I[I[I[I[I[I)Z"⟩
abbrev cL_same : ByteArray := method_16_code
def yL_same : MethodName := ⟨RL, "same", "(LHearingpay;I[I[I[I[I[I[I)Z"⟩
abbrev cL_law : ByteArray := code
def yL_law : MethodName := ⟨RL, "law", "([I)Z"⟩
def wAll : List Cond := lw_tbl.filter goodWord
theorem wAll_i (i : Nat) {w : Cond} (h : lw_tbl[i]? = some w) (g : goodWord w = true) : w ∈ wAll := List.mem_filter.mpr ⟨List.mem_of_getElem? h, g⟩
theorem wAll_good {w : Cond} (h : w ∈ wAll) : GoodIn wAll [w] := fun w' hw => by
  rw [List.mem_singleton.mp hw]
  exact ⟨h, good_of_word (List.mem_filter.mp h).2⟩
theorem wAll_self : GoodIn wAll wAll := fun w h => ⟨h, good_of_word (List.mem_filter.mp h).2⟩
theorem wAll_tbl {w : Cond} (h : w ∈ wAll) : w ∈ lw_tbl := (List.mem_filter.mp h).1
theorem wAll_sub {ws : List Cond} (h : ∀ w ∈ ws, w ∈ lw_tbl) (g : ∀ w ∈ ws, goodWord w = true) : ∀ w ∈ ws, w ∈ wAll := fun w hw => List.mem_filter.mpr ⟨h w hw, g w hw⟩
def wV (own : String) (index : Nat) (Cn : String) (y : MethodName) (bc : ByteArray) (mxl : Nat) (rt : Option FieldType) : Prop := Cond.methodLink own index y ∈ wAll ∧ Cond.instanceMethod y ∈ wAll ∧ Cond.selects Cn y y ∈ wAll ∧ Cond.initialized Cn ∈ wAll ∧ Cond.code y bc mxl rt ∈ wAll
def wS (own : String) (index : Nat) (y : MethodName) (bc : ByteArray) (mxl : Nat) (rt : Option FieldType) : Prop := Cond.methodLink own index y ∈ wAll ∧ Cond.static y ∈ wAll ∧ Cond.initialized y.cls ∈ wAll ∧ Cond.code y bc mxl rt ∈ wAll
theorem iX0 : ∀ w ∈ u_ws RX0 TX0 10, w ∈ wAll := wAll_sub (by decide +kernel) (by decide +kernel)
theorem iX1 : ∀ w ∈ u_ws RX1 TX1 5, w ∈ wAll := wAll_sub (by decide +kernel) (by decide +kernel)
theorem iX2 : ∀ w ∈ u_ws RX2 TX2 8, w ∈ wAll := wAll_sub (by decide +kernel) (by decide +kernel)
theorem iX3 : ∀ w ∈ u_ws RX3 TX3 7, w ∈ wAll := wAll_sub (by decide +kernel) (by decide +kernel)
theorem fl_X1_9 : Cond.fieldLink RX1 9 "Hearingpay$Interpreter" "languages" "I" ∈ wAll := wAll_i 45 (by decide +kernel) (by decide +kernel)
theorem fl_X3_61 : Cond.fieldLink RX3 61 "Hearingpay$Interpreter" "languages" "I" ∈ wAll := wAll_i 46 (by decide +kernel) (by decide +kernel)
theorem fl_X1_15 : Cond.fieldLink RX1 15 "Hearingpay$Interpreter" "price" "I" ∈ wAll := wAll_i 47 (by decide +kernel) (by decide +kernel)
theorem fl_X3_58 : Cond.fieldLink RX3 58 "Hearingpay$Interpreter" "price" "I" ∈ wAll := wAll_i 48 (by decide +kernel) (by decide +kernel)
theorem fl_X1_18 : Cond.fieldLink RX1 18 "Hearingpay$Interpreter" "paidHours" "[I" ∈ wAll := wAll_i 49 (by decide +kernel) (by decide +kernel)
theorem fl_X1_24 : Cond.fieldLink RX1 24 "Hearingpay$Interpreter" "payers" "[LHearingpay$Matter;" ∈ wAll := wAll_i 50 (by decide +kernel) (by decide +kernel)
theorem fl_X1_28 : Cond.fieldLink RX1 28 "Hearingpay$Interpreter" "amounts" "[I" ∈ wAll := wAll_i 51 (by decide +kernel) (by decide +kernel)
theorem fl_X3_11 : Cond.fieldLink RX3 11 "Hearingpay" "interpreters" "[LHearingpay$Interpreter;" ∈ wAll := wAll_i 65 (by decide +kernel) (by decide +kernel)
theorem fl_X3_15 : Cond.fieldLink RX3 15 "Hearingpay" "waived" "[Z" ∈ wAll := wAll_i 66 (by decide +kernel) (by decide +kernel)
theorem fl_X3_21 : Cond.fieldLink RX3 21 "Hearingpay" "matters" "[LHearingpay$Matter;" ∈ wAll := wAll_i 67 (by decide +kernel) (by decide +kernel)
theorem fl_X3_27 : Cond.fieldLink RX3 27 "Hearingpay" "hearings" "[LHearingpay$Hearing;" ∈ wAll := wAll_i 68 (by decide +kernel) (by decide +kernel)
theorem fl_X3_31 : Cond.fieldLink RX3 31 "Hearingpay" "matterCount" "I" ∈ wAll := wAll_i 69 (by decide +kernel) (by decide +kernel)
theorem fl_X3_35 : Cond.fieldLink RX3 35 "Hearingpay" "hearingCount" "I" ∈ wAll := wAll_i 70 (by decide +kernel) (by decide +kernel)
theorem fl_X3_38 : Cond.fieldLink RX3 38 "Hearingpay" "now" "I" ∈ wAll := wAll_i 71 (by decide +kernel) (by decide +kernel)
theorem cv_L_119 : wV RL 119 RX3 yX3_interpreter cX3_interpreter 6 (some .int) := ⟨wAll_i 87 (by decide +kernel) (by decide +kernel), wAll_i 88 (by decide +kernel) (by decide +kernel), wAll_i 89 (by decide +kernel) (by decide +kernel), wAll_i 15 (by decide +kernel) (by decide +kernel), wAll_i 90 (by decide +kernel) (by decide +kernel)⟩
theorem cv_X3_42 : wV RX3 42 RX3 yX3_interpreterAt cX3_interpreterAt 2 (some (.object "Hearingpay$Interpreter")) := ⟨wAll_i 91 (by decide +kernel) (by decide +kernel), wAll_i 93 (by decide +kernel) (by decide +kernel), wAll_i 0 (by decide +kernel) (by decide +kernel), wAll_i 15 (by decide +kernel) (by decide +kernel), wAll_i 94 (by decide +kernel) (by decide +kernel)⟩
theorem cv_L_132 : wV RL 132 RX3 yX3_waive cX3_waive 4 (some .boolean) := ⟨wAll_i 179 (by decide +kernel) (by decide +kernel), wAll_i 180 (by decide +kernel) (by decide +kernel), wAll_i 181 (by decide +kernel) (by decide +kernel), wAll_i 15 (by decide +kernel) (by decide +kernel), wAll_i 182 (by decide +kernel) (by decide +kernel)⟩
theorem cv_L_122 : wV RL 122 RX3 yX3_file cX3_file 6 (some .int) := ⟨wAll_i 184 (by decide +kernel) (by decide +kernel), wAll_i 185 (by decide +kernel) (by decide +kernel), wAll_i 186 (by decide +kernel) (by decide +kernel), wAll_i 15 (by decide +kernel) (by decide +kernel), wAll_i 187 (by decide +kernel) (by decide +kernel)⟩
theorem cs_X3_66 : wS RX3 66 yX3_isIn cX3_isIn 2 (some .boolean) := ⟨wAll_i 188 (by decide +kernel) (by decide +kernel), wAll_i 189 (by decide +kernel) (by decide +kernel), wAll_i 15 (by decide +kernel) (by decide +kernel), wAll_i 190 (by decide +kernel) (by decide +kernel)⟩
theorem cs_X3_70 : wS RX3 70 yX3_isInOrNone cX3_isInOrNone 2 (some .boolean) := ⟨wAll_i 191 (by decide +kernel) (by decide +kernel), wAll_i 192 (by decide +kernel) (by decide +kernel), wAll_i 15 (by decide +kernel) (by decide +kernel), wAll_i 193 (by decide +kernel) (by decide +kernel)⟩
theorem fl_X2_18 : Cond.fieldLink RX2 18 "Hearingpay$Matter" "number" "I" ∈ wAll := wAll_i 217 (by decide +kernel) (by decide +kernel)
theorem fl_X3_92 : Cond.fieldLink RX3 92 "Hearingpay$Matter" "number" "I" ∈ wAll := wAll_i 218 (by decide +kernel) (by decide +kernel)
theorem fl_X2_21 : Cond.fieldLink RX2 21 "Hearingpay$Matter" "judge" "I" ∈ wAll := wAll_i 219 (by decide +kernel) (by decide +kernel)
theorem fl_X0_45 : Cond.fieldLink RX0 45 "Hearingpay$Matter" "judge" "I" ∈ wAll := wAll_i 220 (by decide +kernel) (by decide +kernel)
theorem fl_X3_224 : Cond.fieldLink RX3 224 "Hearingpay$Matter" "judge" "I" ∈ wAll := wAll_i 221 (by decide +kernel) (by decide +kernel)
theorem fl_X2_24 : Cond.fieldLink RX2 24 "Hearingpay$Matter" "first" "I" ∈ wAll := wAll_i 222 (by decide +kernel) (by decide +kernel)
theorem fl_X0_58 : Cond.fieldLink RX0 58 "Hearingpay$Matter" "first" "I" ∈ wAll := wAll_i 223 (by decide +kernel) (by decide +kernel)
theorem fl_X3_227 : Cond.fieldLink RX3 227 "Hearingpay$Matter" "first" "I" ∈ wAll := wAll_i 224 (by decide +kernel) (by decide +kernel)
theorem fl_X2_27 : Cond.fieldLink RX2 27 "Hearingpay$Matter" "second" "I" ∈ wAll := wAll_i 225 (by decide +kernel) (by decide +kernel)
theorem fl_X0_61 : Cond.fieldLink RX0 61 "Hearingpay$Matter" "second" "I" ∈ wAll := wAll_i 226 (by decide +kernel) (by decide +kernel)
theorem fl_X3_230 : Cond.fieldLink RX3 230 "Hearingpay$Matter" "second" "I" ∈ wAll := wAll_i 227 (by decide +kernel) (by decide +kernel)
theorem fl_X2_30 : Cond.fieldLink RX2 30 "Hearingpay$Matter" "language" "I" ∈ wAll := wAll_i 228 (by decide +kernel) (by decide +kernel)
theorem fl_X3_233 : Cond.fieldLink RX3 233 "Hearingpay$Matter" "language" "I" ∈ wAll := wAll_i 229 (by decide +kernel) (by decide +kernel)
theorem fl_X2_9 : Cond.fieldLink RX2 9 "Hearingpay$Matter" "state" "I" ∈ wAll := wAll_i 230 (by decide +kernel) (by decide +kernel)
theorem fl_X3_103 : Cond.fieldLink RX3 103 "Hearingpay$Matter" "state" "I" ∈ wAll := wAll_i 231 (by decide +kernel) (by decide +kernel)
theorem fl_X0_68 : Cond.fieldLink RX0 68 "Hearingpay$Matter" "state" "I" ∈ wAll := wAll_i 232 (by decide +kernel) (by decide +kernel)
theorem fl_X2_15 : Cond.fieldLink RX2 15 "Hearingpay$Matter" "balance" "I" ∈ wAll := wAll_i 233 (by decide +kernel) (by decide +kernel)
theorem fl_X3_85 : Cond.fieldLink RX3 85 "Hearingpay$Matter" "balance" "I" ∈ wAll := wAll_i 234 (by decide +kernel) (by decide +kernel)
theorem fl_X1_39 : Cond.fieldLink RX1 39 "Hearingpay$Matter" "balance" "I" ∈ wAll := wAll_i 235 (by decide +kernel) (by decide +kernel)
theorem fl_X2_33 : Cond.fieldLink RX2 33 "Hearingpay$Matter" "end" "I" ∈ wAll := wAll_i 236 (by decide +kernel) (by decide +kernel)
theorem fl_X3_116 : Cond.fieldLink RX3 116 "Hearingpay$Matter" "end" "I" ∈ wAll := wAll_i 237 (by decide +kernel) (by decide +kernel)
theorem cv_X3_88 : wV RX3 88 RX3 yX3_feeFor cX3_feeFor 4 (some .int) := ⟨wAll_i 255 (by decide +kernel) (by decide +kernel), wAll_i 257 (by decide +kernel) (by decide +kernel), wAll_i 2 (by decide +kernel) (by decide +kernel), wAll_i 15 (by decide +kernel) (by decide +kernel), wAll_i 258 (by decide +kernel) (by decide +kernel)⟩
theorem cv_L_139 : wV RL 139 RX3 yX3_pass cX3_pass 4 (some .int) := ⟨wAll_i 259 (by decide +kernel) (by decide +kernel), wAll_i 260 (by decide +kernel) (by decide +kernel), wAll_i 261 (by decide +kernel) (by decide +kernel), wAll_i 15 (by decide +kernel) (by decide +kernel), wAll_i 262 (by decide +kernel) (by decide +kernel)⟩
theorem cv_X3_200 : wV RX3 200 RX3 yX3_endHearings cX3_endHearings 4 (some .int) := ⟨wAll_i 265 (by decide +kernel) (by decide +kernel), wAll_i 267 (by decide +kernel) (by decide +kernel), wAll_i 3 (by decide +kernel) (by decide +kernel), wAll_i 15 (by decide +kernel) (by decide +kernel), wAll_i 268 (by decide +kernel) (by decide +kernel)⟩
theorem cv_X3_149 : wV RX3 149 RX3 yX3_hearingAt cX3_hearingAt 2 (some (.object "Hearingpay$Hearing")) := ⟨wAll_i 269 (by decide +kernel) (by decide +kernel), wAll_i 271 (by decide +kernel) (by decide +kernel), wAll_i 4 (by decide +kernel) (by decide +kernel), wAll_i 15 (by decide +kernel) (by decide +kernel), wAll_i 272 (by decide +kernel) (by decide +kernel)⟩
theorem cv_X3_279 : wV RX3 279 RX0 yX0_end cX0_end 1 none := ⟨wAll_i 273 (by decide +kernel) (by decide +kernel), wAll_i 274 (by decide +kernel) (by decide +kernel), wAll_i 275 (by decide +kernel) (by decide +kernel), wAll_i 24 (by decide +kernel) (by decide +kernel), wAll_i 276 (by decide +kernel) (by decide +kernel)⟩
theorem cv_X0_64 : wV RX0 64 RX2 yX2_isOpen cX2_isOpen 1 (some .boolean) := ⟨wAll_i 277 (by decide +kernel) (by decide +kernel), wAll_i 278 (by decide +kernel) (by decide +kernel), wAll_i 279 (by decide +kernel) (by decide +kernel), wAll_i 23 (by decide +kernel) (by decide +kernel), wAll_i 280 (by decide +kernel) (by decide +kernel)⟩
theorem cv_X3_204 : wV RX3 204 RX3 yX3_runTerms cX3_runTerms 3 none := ⟨wAll_i 281 (by decide +kernel) (by decide +kernel), wAll_i 283 (by decide +kernel) (by decide +kernel), wAll_i 5 (by decide +kernel) (by decide +kernel), wAll_i 15 (by decide +kernel) (by decide +kernel), wAll_i 284 (by decide +kernel) (by decide +kernel)⟩
theorem cv_X3_95 : wV RX3 95 RX3 yX3_matterAt cX3_matterAt 2 (some (.object "Hearingpay$Matter")) := ⟨wAll_i 285 (by decide +kernel) (by decide +kernel), wAll_i 287 (by decide +kernel) (by decide +kernel), wAll_i 6 (by decide +kernel) (by decide +kernel), wAll_i 15 (by decide +kernel) (by decide +kernel), wAll_i 288 (by decide +kernel) (by decide +kernel)⟩
theorem cv_X3_281 : wV RX3 281 RX2 yX2_runTerm cX2_runTerm 2 none := ⟨wAll_i 289 (by decide +kernel) (by decide +kernel), wAll_i 290 (by decide +kernel) (by decide +kernel), wAll_i 291 (by decide +kernel) (by decide +kernel), wAll_i 23 (by decide +kernel) (by decide +kernel), wAll_i 292 (by decide +kernel) (by decide +kernel)⟩
theorem cv_X2_36 : wV RX2 36 RX2 yX2_isOpen cX2_isOpen 1 (some .boolean) := ⟨wAll_i 293 (by decide +kernel) (by decide +kernel), wAll_i 278 (by decide +kernel) (by decide +kernel), wAll_i 279 (by decide +kernel) (by decide +kernel), wAll_i 23 (by decide +kernel) (by decide +kernel), wAll_i 280 (by decide +kernel) (by decide +kernel)⟩
set_option maxRecDepth 100000 in
theorem cs_L_115 : wS RL 115 yL_cell cL_cell 2 (some .int) := ⟨wAll_i 294 (by decide +kernel) (by decide +kernel), wAll_i 295 (by decide +kernel) (by decide +kernel), wAll_i 14 (by decide +kernel) (by decide +kernel), wAll_i 296 rfl (by decide +kernel)⟩
set_option maxRecDepth 100000 in
theorem cs_L_65 : wS RL 65 yL_low cL_low 2 (some .int) := ⟨wAll_i 299 (by decide +kernel) (by decide +kernel), wAll_i 300 (by decide +kernel) (by decide +kernel), wAll_i 14 (by decide +kernel) (by decide +kernel), wAll_i 301 rfl (by decide +kernel)⟩
set_option maxRecDepth 100000 in
theorem cs_L_136 : wS RL 136 yL_hour cL_hour 7 (some .int) := ⟨wAll_i 303 (by decide +kernel) (by decide +kernel), wAll_i 304 (by decide +kernel) (by decide +kernel), wAll_i 14 (by decide +kernel) (by decide +kernel), wAll_i 305 rfl (by decide +kernel)⟩
set_option maxRecDepth 100000 in
theorem cs_L_125 : wS RL 125 yL_plans cL_plans 20 (some .boolean) := ⟨wAll_i 306 (by decide +kernel) (by decide +kernel), wAll_i 307 (by decide +kernel) (by decide +kernel), wAll_i 14 (by decide +kernel) (by decide +kernel), wAll_i 308 rfl (by decide +kernel)⟩
set_option maxRecDepth 100000 in
theorem cs_L_69 : wS RL 69 yL_fits cL_fits 5 (some .boolean) := ⟨wAll_i 309 (by decide +kernel) (by decide +kernel), wAll_i 310 (by decide +kernel) (by decide +kernel), wAll_i 14 (by decide +kernel) (by decide +kernel), wAll_i 311 rfl (by decide +kernel)⟩
set_option maxRecDepth 100000 in
theorem cs_L_73 : wS RL 73 yL_clash cL_clash 14 (some .int) := ⟨wAll_i 312 (by decide +kernel) (by decide +kernel), wAll_i 313 (by decide +kernel) (by decide +kernel), wAll_i 14 (by decide +kernel) (by decide +kernel), wAll_i 314 rfl (by decide +kernel)⟩
set_option maxRecDepth 100000 in
theorem cs_L_61 : wS RL 61 yL_shares cL_shares 3 (some .boolean) := ⟨wAll_i 315 (by decide +kernel) (by decide +kernel), wAll_i 316 (by decide +kernel) (by decide +kernel), wAll_i 14 (by decide +kernel) (by decide +kernel), wAll_i 317 rfl (by decide +kernel)⟩
set_option maxRecDepth 100000 in
theorem cs_L_47 : wS RL 47 yL_speaker cL_speaker 2 (some .int) := ⟨wAll_i 318 (by decide +kernel) (by decide +kernel), wAll_i 319 (by decide +kernel) (by decide +kernel), wAll_i 14 (by decide +kernel) (by decide +kernel), wAll_i 320 rfl (by decide +kernel)⟩
set_option maxRecDepth 100000 in
theorem cs_L_77 : wS RL 77 yL_comes cL_comes 14 none := ⟨wAll_i 323 (by decide +kernel) (by decide +kernel), wAll_i 324 (by decide +kernel) (by decide +kernel), wAll_i 14 (by decide +kernel) (by decide +kernel), wAll_i 325 rfl (by decide +kernel)⟩
set_option maxRecDepth 100000 in
theorem cs_L_57 : wS RL 57 yL_paid cL_paid 5 (some .int) := ⟨wAll_i 326 (by decide +kernel) (by decide +kernel), wAll_i 327 (by decide +kernel) (by decide +kernel), wAll_i 14 (by decide +kernel) (by decide +kernel), wAll_i 328 rfl (by decide +kernel)⟩
theorem cv_L_10 : wV RL 10 RX3 yX3_plan cX3_plan 8 (some .int) := ⟨wAll_i 334 (by decide +kernel) (by decide +kernel), wAll_i 335 (by decide +kernel) (by decide +kernel), wAll_i 336 (by decide +kernel) (by decide +kernel), wAll_i 15 (by decide +kernel) (by decide +kernel), wAll_i 337 (by decide +kernel) (by decide +kernel)⟩
theorem cv_X3_125 : wV RX3 125 RX2 yX2_isOpen cX2_isOpen 1 (some .boolean) := ⟨wAll_i 340 (by decide +kernel) (by decide +kernel), wAll_i 278 (by decide +kernel) (by decide +kernel), wAll_i 279 (by decide +kernel) (by decide +kernel), wAll_i 23 (by decide +kernel) (by decide +kernel), wAll_i 280 (by decide +kernel) (by decide +kernel)⟩
theorem cv_X3_129 : wV RX3 129 RX3 yX3_isAsNeeded cX3_isAsNeeded 4 (some .boolean) := ⟨wAll_i 341 (by decide +kernel) (by decide +kernel), wAll_i 343 (by decide +kernel) (by decide +kernel), wAll_i 7 (by decide +kernel) (by decide +kernel), wAll_i 15 (by decide +kernel) (by decide +kernel), wAll_i 344 (by decide +kernel) (by decide +kernel)⟩
theorem cv_X3_257 : wV RX3 257 RX1 yX1_knows cX1_knows 2 (some .boolean) := ⟨wAll_i 345 (by decide +kernel) (by decide +kernel), wAll_i 346 (by decide +kernel) (by decide +kernel), wAll_i 347 (by decide +kernel) (by decide +kernel), wAll_i 16 (by decide +kernel) (by decide +kernel), wAll_i 348 (by decide +kernel) (by decide +kernel)⟩
theorem cv_X3_135 : wV RX3 135 RX3 yX3_clashReason cX3_clashReason 11 (some .int) := ⟨wAll_i 350 (by decide +kernel) (by decide +kernel), wAll_i 352 (by decide +kernel) (by decide +kernel), wAll_i 8 (by decide +kernel) (by decide +kernel), wAll_i 15 (by decide +kernel) (by decide +kernel), wAll_i 353 (by decide +kernel) (by decide +kernel)⟩
theorem cv_X3_218 : wV RX3 218 RX0 yX0_takesPartOf cX0_takesPartOf 3 (some .boolean) := ⟨wAll_i 354 (by decide +kernel) (by decide +kernel), wAll_i 355 (by decide +kernel) (by decide +kernel), wAll_i 356 (by decide +kernel) (by decide +kernel), wAll_i 24 (by decide +kernel) (by decide +kernel), wAll_i 357 (by decide +kernel) (by decide +kernel)⟩
theorem cv_X3_260 : wV RX3 260 RX0 yX0_reasonAgainst cX0_reasonAgainst 4 (some .int) := ⟨wAll_i 358 (by decide +kernel) (by decide +kernel), wAll_i 359 (by decide +kernel) (by decide +kernel), wAll_i 360 (by decide +kernel) (by decide +kernel), wAll_i 24 (by decide +kernel) (by decide +kernel), wAll_i 361 (by decide +kernel) (by decide +kernel)⟩
theorem cv_X0_54 : wV RX0 54 RX0 yX0_needs cX0_needs 3 (some .boolean) := ⟨wAll_i 362 (by decide +kernel) (by decide +kernel), wAll_i 363 (by decide +kernel) (by decide +kernel), wAll_i 364 (by decide +kernel) (by decide +kernel), wAll_i 24 (by decide +kernel) (by decide +kernel), wAll_i 365 (by decide +kernel) (by decide +kernel)⟩
theorem cv_X0_50 : wV RX0 50 RX2 yX2_isOf cX2_isOf 2 (some .boolean) := ⟨wAll_i 366 (by decide +kernel) (by decide +kernel), wAll_i 367 (by decide +kernel) (by decide +kernel), wAll_i 368 (by decide +kernel) (by decide +kernel), wAll_i 23 (by decide +kernel) (by decide +kernel), wAll_i 369 (by decide +kernel) (by decide +kernel)⟩
theorem fl_X0_35 : Cond.fieldLink RX0 35 "Hearingpay$Hearing" "number" "I" ∈ wAll := wAll_i 376 (by decide +kernel) (by decide +kernel)
theorem fl_X3_148 : Cond.fieldLink RX3 148 "Hearingpay$Hearing" "number" "I" ∈ wAll := wAll_i 377 (by decide +kernel) (by decide +kernel)
theorem fl_X0_38 : Cond.fieldLink RX0 38 "Hearingpay$Hearing" "matter" "LHearingpay$Matter;" ∈ wAll := wAll_i 378 (by decide +kernel) (by decide +kernel)
theorem fl_X3_161 : Cond.fieldLink RX3 161 "Hearingpay$Hearing" "matter" "LHearingpay$Matter;" ∈ wAll := wAll_i 379 (by decide +kernel) (by decide +kernel)
theorem fl_X0_42 : Cond.fieldLink RX0 42 "Hearingpay$Hearing" "hours" "I" ∈ wAll := wAll_i 380 (by decide +kernel) (by decide +kernel)
theorem fl_X3_167 : Cond.fieldLink RX3 167 "Hearingpay$Hearing" "hours" "I" ∈ wAll := wAll_i 381 (by decide +kernel) (by decide +kernel)
theorem fl_X0_9 : Cond.fieldLink RX0 9 "Hearingpay$Hearing" "charges" "[I" ∈ wAll := wAll_i 382 (by decide +kernel) (by decide +kernel)
theorem fl_X3_268 : Cond.fieldLink RX3 268 "Hearingpay$Hearing" "charges" "[I" ∈ wAll := wAll_i 383 (by decide +kernel) (by decide +kernel)
theorem fl_X0_15 : Cond.fieldLink RX0 15 "Hearingpay$Hearing" "state" "I" ∈ wAll := wAll_i 384 (by decide +kernel) (by decide +kernel)
theorem fl_X3_178 : Cond.fieldLink RX3 178 "Hearingpay$Hearing" "state" "I" ∈ wAll := wAll_i 385 (by decide +kernel) (by decide +kernel)
theorem fl_X0_19 : Cond.fieldLink RX0 19 "Hearingpay$Hearing" "room" "I" ∈ wAll := wAll_i 386 (by decide +kernel) (by decide +kernel)
theorem fl_X3_239 : Cond.fieldLink RX3 239 "Hearingpay$Hearing" "room" "I" ∈ wAll := wAll_i 387 (by decide +kernel) (by decide +kernel)
theorem fl_X0_22 : Cond.fieldLink RX0 22 "Hearingpay$Hearing" "interpreter" "I" ∈ wAll := wAll_i 388 (by decide +kernel) (by decide +kernel)
theorem fl_X3_242 : Cond.fieldLink RX3 242 "Hearingpay$Hearing" "interpreter" "I" ∈ wAll := wAll_i 389 (by decide +kernel) (by decide +kernel)
theorem fl_X0_25 : Cond.fieldLink RX0 25 "Hearingpay$Hearing" "from" "I" ∈ wAll := wAll_i 390 (by decide +kernel) (by decide +kernel)
theorem fl_X3_189 : Cond.fieldLink RX3 189 "Hearingpay$Hearing" "from" "I" ∈ wAll := wAll_i 391 (by decide +kernel) (by decide +kernel)
theorem fl_X0_28 : Cond.fieldLink RX0 28 "Hearingpay$Hearing" "isFirstTold" "Z" ∈ wAll := wAll_i 392 (by decide +kernel) (by decide +kernel)
theorem fl_X0_32 : Cond.fieldLink RX0 32 "Hearingpay$Hearing" "isSecondTold" "Z" ∈ wAll := wAll_i 393 (by decide +kernel) (by decide +kernel)
theorem cv_X3_144 : wV RX3 144 RX3 yX3_put cX3_put 7 none := ⟨wAll_i 415 (by decide +kernel) (by decide +kernel), wAll_i 417 (by decide +kernel) (by decide +kernel), wAll_i 9 (by decide +kernel) (by decide +kernel), wAll_i 15 (by decide +kernel) (by decide +kernel), wAll_i 418 (by decide +kernel) (by decide +kernel)⟩
theorem cv_X3_264 : wV RX3 264 RX0 yX0_settleAt cX0_settleAt 4 none := ⟨wAll_i 419 (by decide +kernel) (by decide +kernel), wAll_i 420 (by decide +kernel) (by decide +kernel), wAll_i 421 (by decide +kernel) (by decide +kernel), wAll_i 24 (by decide +kernel) (by decide +kernel), wAll_i 422 (by decide +kernel) (by decide +kernel)⟩
theorem cv_X3_272 : wV RX3 272 RX1 yX1_take cX1_take 7 (some .int) := ⟨wAll_i 423 (by decide +kernel) (by decide +kernel), wAll_i 424 (by decide +kernel) (by decide +kernel), wAll_i 425 (by decide +kernel) (by decide +kernel), wAll_i 16 (by decide +kernel) (by decide +kernel), wAll_i 426 (by decide +kernel) (by decide +kernel)⟩
theorem cv_X1_35 : wV RX1 35 RX1 yX1_payer cX1_payer 4 (some (.object "Hearingpay$Matter")) := ⟨wAll_i 427 (by decide +kernel) (by decide +kernel), wAll_i 428 (by decide +kernel) (by decide +kernel), wAll_i 429 (by decide +kernel) (by decide +kernel), wAll_i 16 (by decide +kernel) (by decide +kernel), wAll_i 430 (by decide +kernel) (by decide +kernel)⟩
theorem cs_X1_31 : wS RX1 31 yX1_placeOf cX1_placeOf 1 (some .int) := ⟨wAll_i 431 (by decide +kernel) (by decide +kernel), wAll_i 432 (by decide +kernel) (by decide +kernel), wAll_i 16 (by decide +kernel) (by decide +kernel), wAll_i 433 (by decide +kernel) (by decide +kernel)⟩
theorem cv_X3_248 : wV RX3 248 RX0 yX0_charged cX0_charged 3 (some .int) := ⟨wAll_i 434 (by decide +kernel) (by decide +kernel), wAll_i 435 (by decide +kernel) (by decide +kernel), wAll_i 436 (by decide +kernel) (by decide +kernel), wAll_i 24 (by decide +kernel) (by decide +kernel), wAll_i 437 (by decide +kernel) (by decide +kernel)⟩
theorem cv_L_16 : wV RL 16 RX3 yX3_move cX3_move 6 (some .int) := ⟨wAll_i 438 (by decide +kernel) (by decide +kernel), wAll_i 439 (by decide +kernel) (by decide +kernel), wAll_i 440 (by decide +kernel) (by decide +kernel), wAll_i 15 (by decide +kernel) (by decide +kernel), wAll_i 441 (by decide +kernel) (by decide +kernel)⟩
theorem cv_X3_157 : wV RX3 157 RX3 yX3_isToBegin cX3_isToBegin 2 (some .boolean) := ⟨wAll_i 444 (by decide +kernel) (by decide +kernel), wAll_i 446 (by decide +kernel) (by decide +kernel), wAll_i 10 (by decide +kernel) (by decide +kernel), wAll_i 15 (by decide +kernel) (by decide +kernel), wAll_i 447 (by decide +kernel) (by decide +kernel)⟩
theorem cv_X3_170 : wV RX3 170 RX3 yX3_leave cX3_leave 4 none := ⟨wAll_i 449 (by decide +kernel) (by decide +kernel), wAll_i 451 (by decide +kernel) (by decide +kernel), wAll_i 11 (by decide +kernel) (by decide +kernel), wAll_i 15 (by decide +kernel) (by decide +kernel), wAll_i 452 (by decide +kernel) (by decide +kernel)⟩
theorem cv_X3_276 : wV RX3 276 RX1 yX1_keep cX1_keep 5 none := ⟨wAll_i 453 (by decide +kernel) (by decide +kernel), wAll_i 454 (by decide +kernel) (by decide +kernel), wAll_i 455 (by decide +kernel) (by decide +kernel), wAll_i 16 (by decide +kernel) (by decide +kernel), wAll_i 456 (by decide +kernel) (by decide +kernel)⟩
theorem cv_L_20 : wV RL 20 RX3 yX3_drop cX3_drop 3 (some .int) := ⟨wAll_i 457 (by decide +kernel) (by decide +kernel), wAll_i 458 (by decide +kernel) (by decide +kernel), wAll_i 459 (by decide +kernel) (by decide +kernel), wAll_i 15 (by decide +kernel) (by decide +kernel), wAll_i 460 (by decide +kernel) (by decide +kernel)⟩
theorem cv_L_24 : wV RL 24 RX3 yX3_decide cX3_decide 3 (some .int) := ⟨wAll_i 463 (by decide +kernel) (by decide +kernel), wAll_i 464 (by decide +kernel) (by decide +kernel), wAll_i 465 (by decide +kernel) (by decide +kernel), wAll_i 15 (by decide +kernel) (by decide +kernel), wAll_i 466 (by decide +kernel) (by decide +kernel)⟩
theorem cv_X3_108 : wV RX3 108 RX3 yX3_dropAllOf cX3_dropAllOf 5 (some .int) := ⟨wAll_i 469 (by decide +kernel) (by decide +kernel), wAll_i 471 (by decide +kernel) (by decide +kernel), wAll_i 12 (by decide +kernel) (by decide +kernel), wAll_i 15 (by decide +kernel) (by decide +kernel), wAll_i 472 (by decide +kernel) (by decide +kernel)⟩
theorem cv_L_27 : wV RL 27 RX3 yX3_appeal cX3_appeal 3 (some .int) := ⟨wAll_i 473 (by decide +kernel) (by decide +kernel), wAll_i 474 (by decide +kernel) (by decide +kernel), wAll_i 475 (by decide +kernel) (by decide +kernel), wAll_i 15 (by decide +kernel) (by decide +kernel), wAll_i 476 (by decide +kernel) (by decide +kernel)⟩
theorem cv_L_30 : wV RL 30 RX3 yX3_settle cX3_settle 4 (some .int) := ⟨wAll_i 478 (by decide +kernel) (by decide +kernel), wAll_i 479 (by decide +kernel) (by decide +kernel), wAll_i 480 (by decide +kernel) (by decide +kernel), wAll_i 15 (by decide +kernel) (by decide +kernel), wAll_i 481 (by decide +kernel) (by decide +kernel)⟩
theorem cv_L_34 : wV RL 34 RX3 yX3_close cX3_close 3 (some .int) := ⟨wAll_i 483 (by decide +kernel) (by decide +kernel), wAll_i 484 (by decide +kernel) (by decide +kernel), wAll_i 485 (by decide +kernel) (by decide +kernel), wAll_i 15 (by decide +kernel) (by decide +kernel), wAll_i 486 (by decide +kernel) (by decide +kernel)⟩
theorem cv_L_37 : wV RL 37 RX3 yX3_notice cX3_notice 5 (some .boolean) := ⟨wAll_i 488 (by decide +kernel) (by decide +kernel), wAll_i 489 (by decide +kernel) (by decide +kernel), wAll_i 490 (by decide +kernel) (by decide +kernel), wAll_i 15 (by decide +kernel) (by decide +kernel), wAll_i 491 (by decide +kernel) (by decide +kernel)⟩
theorem cv_X3_181 : wV RX3 181 RX2 yX2_isOf cX2_isOf 2 (some .boolean) := ⟨wAll_i 493 (by decide +kernel) (by decide +kernel), wAll_i 367 (by decide +kernel) (by decide +kernel), wAll_i 368 (by decide +kernel) (by decide +kernel), wAll_i 23 (by decide +kernel) (by decide +kernel), wAll_i 369 (by decide +kernel) (by decide +kernel)⟩
theorem cv_X3_192 : wV RX3 192 RX0 yX0_tell cX0_tell 2 none := ⟨wAll_i 496 (by decide +kernel) (by decide +kernel), wAll_i 497 (by decide +kernel) (by decide +kernel), wAll_i 498 (by decide +kernel) (by decide +kernel), wAll_i 24 (by decide +kernel) (by decide +kernel), wAll_i 499 (by decide +kernel) (by decide +kernel)⟩
set_option maxRecDepth 100000 in
theorem cs_L_85 : wS RL 85 yL_leaves cL_leaves 10 none := ⟨wAll_i 500 (by decide +kernel) (by decide +kernel), wAll_i 501 (by decide +kernel) (by decide +kernel), wAll_i 14 (by decide +kernel) (by decide +kernel), wAll_i 502 rfl (by decide +kernel)⟩
set_option maxRecDepth 100000 in
theorem cs_L_53 : wS RL 53 yL_keeps cL_keeps 8 none := ⟨wAll_i 503 (by decide +kernel) (by decide +kernel), wAll_i 504 (by decide +kernel) (by decide +kernel), wAll_i 14 (by decide +kernel) (by decide +kernel), wAll_i 505 rfl (by decide +kernel)⟩
set_option maxRecDepth 100000 in
theorem cs_L_129 : wS RL 129 yL_matters cL_matters 14 (some .boolean) := ⟨wAll_i 506 (by decide +kernel) (by decide +kernel), wAll_i 507 (by decide +kernel) (by decide +kernel), wAll_i 14 (by decide +kernel) (by decide +kernel), wAll_i 508 rfl (by decide +kernel)⟩
theorem cv_L_89 : wV RL 89 RX3 yX3_pay cX3_pay 4 (some .int) := ⟨wAll_i 509 (by decide +kernel) (by decide +kernel), wAll_i 510 (by decide +kernel) (by decide +kernel), wAll_i 511 (by decide +kernel) (by decide +kernel), wAll_i 15 (by decide +kernel) (by decide +kernel), wAll_i 512 (by decide +kernel) (by decide +kernel)⟩
set_option maxRecDepth 100000 in
theorem cs_L_142 : wS RL 142 yL_same cL_same 16 (some .boolean) := ⟨wAll_i 514 (by decide +kernel) (by decide +kernel), wAll_i 515 (by decide +kernel) (by decide +kernel), wAll_i 14 (by decide +kernel) (by decide +kernel), wAll_i 516 rfl (by decide +kernel)⟩
theorem cv_L_92 : wV RL 92 RX3 yX3_hour cX3_hour 1 (some .int) := ⟨wAll_i 517 (by decide +kernel) (by decide +kernel), wAll_i 518 (by decide +kernel) (by decide +kernel), wAll_i 519 (by decide +kernel) (by decide +kernel), wAll_i 15 (by decide +kernel) (by decide +kernel), wAll_i 520 (by decide +kernel) (by decide +kernel)⟩
theorem cv_L_96 : wV RL 96 RX3 yX3_about cX3_about 4 (some .int) := ⟨wAll_i 521 (by decide +kernel) (by decide +kernel), wAll_i 522 (by decide +kernel) (by decide +kernel), wAll_i 523 (by decide +kernel) (by decide +kernel), wAll_i 15 (by decide +kernel) (by decide +kernel), wAll_i 524 (by decide +kernel) (by decide +kernel)⟩
theorem cv_X3_236 : wV RX3 236 RX3 yX3_paidHoursOf cX3_paidHoursOf 5 (some .int) := ⟨wAll_i 526 (by decide +kernel) (by decide +kernel), wAll_i 528 (by decide +kernel) (by decide +kernel), wAll_i 13 (by decide +kernel) (by decide +kernel), wAll_i 15 (by decide +kernel) (by decide +kernel), wAll_i 529 (by decide +kernel) (by decide +kernel)⟩
theorem cv_X3_284 : wV RX3 284 RX1 yX1_hoursPaidBy cX1_hoursPaidBy 5 (some .int) := ⟨wAll_i 530 (by decide +kernel) (by decide +kernel), wAll_i 531 (by decide +kernel) (by decide +kernel), wAll_i 532 (by decide +kernel) (by decide +kernel), wAll_i 16 (by decide +kernel) (by decide +kernel), wAll_i 533 (by decide +kernel) (by decide +kernel)⟩
theorem cv_L_99 : wV RL 99 RX3 yX3_hearing cX3_hearing 4 (some .int) := ⟨wAll_i 534 (by decide +kernel) (by decide +kernel), wAll_i 535 (by decide +kernel) (by decide +kernel), wAll_i 536 (by decide +kernel) (by decide +kernel), wAll_i 15 (by decide +kernel) (by decide +kernel), wAll_i 537 (by decide +kernel) (by decide +kernel)⟩
theorem cv_X3_245 : wV RX3 245 RX0 yX0_notices cX0_notices 1 (some .int) := ⟨wAll_i 538 (by decide +kernel) (by decide +kernel), wAll_i 539 (by decide +kernel) (by decide +kernel), wAll_i 540 (by decide +kernel) (by decide +kernel), wAll_i 24 (by decide +kernel) (by decide +kernel), wAll_i 541 (by decide +kernel) (by decide +kernel)⟩
theorem cv_L_102 : wV RL 102 RX3 yX3_paidBy cX3_paidBy 5 (some .int) := ⟨wAll_i 542 (by decide +kernel) (by decide +kernel), wAll_i 543 (by decide +kernel) (by decide +kernel), wAll_i 544 (by decide +kernel) (by decide +kernel), wAll_i 15 (by decide +kernel) (by decide +kernel), wAll_i 545 (by decide +kernel) (by decide +kernel)⟩
theorem cs_X3_213 : wS RX3 213 yX3_isCalendarHour cX3_isCalendarHour 1 (some .boolean) := ⟨wAll_i 546 (by decide +kernel) (by decide +kernel), wAll_i 547 (by decide +kernel) (by decide +kernel), wAll_i 15 (by decide +kernel) (by decide +kernel), wAll_i 548 (by decide +kernel) (by decide +kernel)⟩
theorem cv_X3_253 : wV RX3 253 RX1 yX1_payer cX1_payer 4 (some (.object "Hearingpay$Matter")) := ⟨wAll_i 550 (by decide +kernel) (by decide +kernel), wAll_i 428 (by decide +kernel) (by decide +kernel), wAll_i 429 (by decide +kernel) (by decide +kernel), wAll_i 16 (by decide +kernel) (by decide +kernel), wAll_i 430 (by decide +kernel) (by decide +kernel)⟩
theorem cv_L_105 : wV RL 105 RX3 yX3_at cX3_at 6 (some .int) := ⟨wAll_i 551 (by decide +kernel) (by decide +kernel), wAll_i 552 (by decide +kernel) (by decide +kernel), wAll_i 553 (by decide +kernel) (by decide +kernel), wAll_i 15 (by decide +kernel) (by decide +kernel), wAll_i 554 (by decide +kernel) (by decide +kernel)⟩
theorem cs_X3_209 : wS RX3 209 yX3_howMany cX3_howMany 1 (some .int) := ⟨wAll_i 555 (by decide +kernel) (by decide +kernel), wAll_i 556 (by decide +kernel) (by decide +kernel), wAll_i 15 (by decide +kernel) (by decide +kernel), wAll_i 557 (by decide +kernel) (by decide +kernel)⟩
theorem cv_X3_221 : wV RX3 221 RX0 yX0_needs cX0_needs 3 (some .boolean) := ⟨wAll_i 559 (by decide +kernel) (by decide +kernel), wAll_i 363 (by decide +kernel) (by decide +kernel), wAll_i 364 (by decide +kernel) (by decide +kernel), wAll_i 24 (by decide +kernel) (by decide +kernel), wAll_i 365 (by decide +kernel) (by decide +kernel)⟩
theorem cv_L_109 : wV RL 109 RX3 yX3_clash cX3_clash 7 (some .int) := ⟨wAll_i 560 (by decide +kernel) (by decide +kernel), wAll_i 561 (by decide +kernel) (by decide +kernel), wAll_i 562 (by decide +kernel) (by decide +kernel), wAll_i 15 (by decide +kernel) (by decide +kernel), wAll_i 563 (by decide +kernel) (by decide +kernel)⟩
theorem cv_L_111 : wV RL 111 RX3 yX3_balances cX3_balances 4 (some .int) := ⟨wAll_i 564 (by decide +kernel) (by decide +kernel), wAll_i 565 (by decide +kernel) (by decide +kernel), wAll_i 566 (by decide +kernel) (by decide +kernel), wAll_i 15 (by decide +kernel) (by decide +kernel), wAll_i 567 (by decide +kernel) (by decide +kernel)⟩
end
section
/-! ===== printed decode rows ===== -/
theorem dX0_init_0 : decode cX0_init 0 = .ok (.aload_n 0, 1) := by decide +kernel
theorem dX0_init_1 : decode cX0_init 1 = .ok (.invokespecial 3, 3) := by decide +kernel
theorem dX0_init_4 : decode cX0_init 4 = .ok (.aload_n 0, 1) := by decide +kernel
theorem dX0_init_5 : decode cX0_init 5 = .ok (.iconst 4, 1) := by decide +kernel
theorem dX0_init_6 : decode cX0_init 6 = .ok (.newarray .int, 2) := by decide +kernel
theorem dX0_init_8 : decode cX0_init 8 = .ok (.putfield 9, 3) := by decide +kernel
theorem dX0_init_11 : decode cX0_init 11 = .ok (.aload_n 0, 1) := by decide +kernel
theorem dX0_init_12 : decode cX0_init 12 = .ok (.iconst 0, 1) := by decide +kernel
theorem dX0_init_13 : decode cX0_init 13 = .ok (.putfield 15, 3) := by decide +kernel
theorem dX0_init_16 : decode cX0_init 16 = .ok (.aload_n 0, 1) := by decide +kernel
theorem dX0_init_17 : decode cX0_init 17 = .ok (.iconst (-1), 1) := by decide +kernel
theorem dX0_init_18 : decode cX0_init 18 = .ok (.putfield 19, 3) := by decide +kernel
theorem dX0_init_21 : decode cX0_init 21 = .ok (.aload_n 0, 1) := by decide +kernel
theorem dX0_init_22 : decode cX0_init 22 = .ok (.iconst (-1), 1) := by decide +kernel
theorem dX0_init_23 : decode cX0_init 23 = .ok (.putfield 22, 3) := by decide +kernel
theorem dX0_init_26 : decode cX0_init 26 = .ok (.aload_n 0, 1) := by decide +kernel
theorem dX0_init_27 : decode cX0_init 27 = .ok (.iconst (-1), 1) := by decide +kernel
theorem dX0_init_28 : decode cX0_init 28 = .ok (.putfield 25, 3) := by decide +kernel
theorem dX0_init_31 : decode cX0_init 31 = .ok (.aload_n 0, 1) := by decide +kernel
theorem dX0_init_32 : decode cX0_init 32 = .ok (.iconst 0, 1) := by decide +kernel
theorem dX0_init_33 : decode cX0_init 33 = .ok (.putfield 28, 3) := by decide +kernel
theorem dX0_init_36 : decode cX0_init 36 = .ok (.aload_n 0, 1) := by decide +kernel
theorem dX0_init_37 : decode cX0_init 37 = .ok (.iconst 0, 1) := by decide +kernel
theorem dX0_init_38 : decode cX0_init 38 = .ok (.putfield 32, 3) := by decide +kernel
theorem dX0_init_41 : decode cX0_init 41 = .ok (.aload_n 0, 1) := by decide +kernel
theorem dX0_init_42 : decode cX0_init 42 = .ok (.iload_n 1, 1) := by decide +kernel
theorem dX0_init_43 : decode cX0_init 43 = .ok (.putfield 35, 3) := by decide +kernel
theorem dX0_init_46 : decode cX0_init 46 = .ok (.aload_n 0, 1) := by decide +kernel
theorem dX0_init_47 : decode cX0_init 47 = .ok (.aload_n 2, 1) := by decide +kernel
theorem dX0_init_48 : decode cX0_init 48 = .ok (.putfield 38, 3) := by decide +kernel
theorem dX0_init_51 : decode cX0_init 51 = .ok (.aload_n 0, 1) := by decide +kernel
theorem dX0_init_52 : decode cX0_init 52 = .ok (.iload_n 3, 1) := by decide +kernel
theorem dX0_init_53 : decode cX0_init 53 = .ok (.putfield 42, 3) := by decide +kernel
theorem dX0_init_56 : decode cX0_init 56 = .ok (.return_, 1) := by decide +kernel
theorem dX0_settleAt_0 : decode cX0_settleAt 0 = .ok (.aload_n 0, 1) := by decide +kernel
theorem dX0_settleAt_1 : decode cX0_settleAt 1 = .ok (.iload_n 1, 1) := by decide +kernel
theorem dX0_settleAt_2 : decode cX0_settleAt 2 = .ok (.putfield 19, 3) := by decide +kernel
theorem dX0_settleAt_5 : decode cX0_settleAt 5 = .ok (.aload_n 0, 1) := by decide +kernel
theorem dX0_settleAt_6 : decode cX0_settleAt 6 = .ok (.iload_n 2, 1) := by decide +kernel
theorem dX0_settleAt_7 : decode cX0_settleAt 7 = .ok (.putfield 22, 3) := by decide +kernel
theorem dX0_settleAt_10 : decode cX0_settleAt 10 = .ok (.aload_n 0, 1) := by decide +kernel
theorem dX0_settleAt_11 : decode cX0_settleAt 11 = .ok (.iload_n 3, 1) := by decide +kernel
theorem dX0_settleAt_12 : decode cX0_settleAt 12 = .ok (.putfield 25, 3) := by decide +kernel
theorem dX0_settleAt_15 : decode cX0_settleAt 15 = .ok (.aload_n 0, 1) := by decide +kernel
theorem dX0_settleAt_16 : decode cX0_settleAt 16 = .ok (.iconst 0, 1) := by decide +kernel
theorem dX0_settleAt_17 : decode cX0_settleAt 17 = .ok (.putfield 28, 3) := by decide +kernel
theorem dX0_settleAt_20 : decode cX0_settleAt 20 = .ok (.aload_n 0, 1) := by decide +kernel
theorem dX0_settleAt_21 : decode cX0_settleAt 21 = .ok (.iconst 0, 1) := by decide +kernel
theorem dX0_settleAt_22 : decode cX0_settleAt 22 = .ok (.putfield 32, 3) := by decide +kernel
theorem dX0_settleAt_25 : decode cX0_settleAt 25 = .ok (.return_, 1) := by decide +kernel
theorem dX0_takesPartOf_0 : decode cX0_takesPartOf 0 = .ok (.aload_n 0, 1) := by decide +kernel
theorem dX0_takesPartOf_1 : decode cX0_takesPartOf 1 = .ok (.getfield 15, 3) := by decide +kernel
theorem dX0_takesPartOf_4 : decode cX0_takesPartOf 4 = .ok (.ifCond .ne 30, 3) := by decide +kernel
theorem dX0_takesPartOf_7 : decode cX0_takesPartOf 7 = .ok (.aload_n 0, 1) := by decide +kernel
theorem dX0_takesPartOf_8 : decode cX0_takesPartOf 8 = .ok (.getfield 25, 3) := by decide +kernel
theorem dX0_takesPartOf_11 : decode cX0_takesPartOf 11 = .ok (.iload_n 1, 1) := by decide +kernel
theorem dX0_takesPartOf_12 : decode cX0_takesPartOf 12 = .ok (.iload_n 2, 1) := by decide +kernel
theorem dX0_takesPartOf_13 : decode cX0_takesPartOf 13 = .ok (.iadd, 1) := by decide +kernel
theorem dX0_takesPartOf_14 : decode cX0_takesPartOf 14 = .ok (.if_icmp .ge 20, 3) := by decide +kernel
theorem dX0_takesPartOf_17 : decode cX0_takesPartOf 17 = .ok (.iload_n 1, 1) := by decide +kernel
theorem dX0_takesPartOf_18 : decode cX0_takesPartOf 18 = .ok (.aload_n 0, 1) := by decide +kernel
theorem dX0_takesPartOf_19 : decode cX0_takesPartOf 19 = .ok (.getfield 25, 3) := by decide +kernel
theorem dX0_takesPartOf_22 : decode cX0_takesPartOf 22 = .ok (.aload_n 0, 1) := by decide +kernel
theorem dX0_takesPartOf_23 : decode cX0_takesPartOf 23 = .ok (.getfield 42, 3) := by decide +kernel
theorem dX0_takesPartOf_26 : decode cX0_takesPartOf 26 = .ok (.iadd, 1) := by decide +kernel
theorem dX0_takesPartOf_27 : decode cX0_takesPartOf 27 = .ok (.if_icmp .ge 7, 3) := by decide +kernel
theorem dX0_takesPartOf_30 : decode cX0_takesPartOf 30 = .ok (.iconst 1, 1) := by decide +kernel
theorem dX0_takesPartOf_31 : decode cX0_takesPartOf 31 = .ok (.goto 4, 3) := by decide +kernel
theorem dX0_takesPartOf_34 : decode cX0_takesPartOf 34 = .ok (.iconst 0, 1) := by decide +kernel
theorem dX0_takesPartOf_35 : decode cX0_takesPartOf 35 = .ok (.ireturn, 1) := by decide +kernel
theorem dX0_needs_0 : decode cX0_needs 0 = .ok (.iload_n 1, 1) := by decide +kernel
theorem dX0_needs_1 : decode cX0_needs 1 = .ok (.tableswitch 67 0 2 #[27, 41, 58], 27) := by decide +kernel
theorem dX0_needs_28 : decode cX0_needs 28 = .ok (.aload_n 0, 1) := by decide +kernel
theorem dX0_needs_29 : decode cX0_needs 29 = .ok (.getfield 19, 3) := by decide +kernel
theorem dX0_needs_32 : decode cX0_needs 32 = .ok (.iload_n 2, 1) := by decide +kernel
theorem dX0_needs_33 : decode cX0_needs 33 = .ok (.if_icmp .ne 7, 3) := by decide +kernel
theorem dX0_needs_36 : decode cX0_needs 36 = .ok (.iconst 1, 1) := by decide +kernel
theorem dX0_needs_37 : decode cX0_needs 37 = .ok (.goto 4, 3) := by decide +kernel
theorem dX0_needs_40 : decode cX0_needs 40 = .ok (.iconst 0, 1) := by decide +kernel
theorem dX0_needs_41 : decode cX0_needs 41 = .ok (.ireturn, 1) := by decide +kernel
theorem dX0_needs_42 : decode cX0_needs 42 = .ok (.aload_n 0, 1) := by decide +kernel
theorem dX0_needs_43 : decode cX0_needs 43 = .ok (.getfield 38, 3) := by decide +kernel
theorem dX0_needs_46 : decode cX0_needs 46 = .ok (.getfield 45, 3) := by decide +kernel
theorem dX0_needs_49 : decode cX0_needs 49 = .ok (.iload_n 2, 1) := by decide +kernel
theorem dX0_needs_50 : decode cX0_needs 50 = .ok (.if_icmp .ne 7, 3) := by decide +kernel
theorem dX0_needs_53 : decode cX0_needs 53 = .ok (.iconst 1, 1) := by decide +kernel
theorem dX0_needs_54 : decode cX0_needs 54 = .ok (.goto 4, 3) := by decide +kernel
theorem dX0_needs_57 : decode cX0_needs 57 = .ok (.iconst 0, 1) := by decide +kernel
theorem dX0_needs_58 : decode cX0_needs 58 = .ok (.ireturn, 1) := by decide +kernel
theorem dX0_needs_59 : decode cX0_needs 59 = .ok (.aload_n 0, 1) := by decide +kernel
theorem dX0_needs_60 : decode cX0_needs 60 = .ok (.getfield 38, 3) := by decide +kernel
theorem dX0_needs_63 : decode cX0_needs 63 = .ok (.iload_n 2, 1) := by decide +kernel
theorem dX0_needs_64 : decode cX0_needs 64 = .ok (.invokevirtual 50, 3) := by decide +kernel
theorem dX0_needs_67 : decode cX0_needs 67 = .ok (.ireturn, 1) := by decide +kernel
theorem dX0_needs_68 : decode cX0_needs 68 = .ok (.aload_n 0, 1) := by decide +kernel
theorem dX0_needs_69 : decode cX0_needs 69 = .ok (.getfield 22, 3) := by decide +kernel
theorem dX0_needs_72 : decode cX0_needs 72 = .ok (.iload_n 2, 1) := by decide +kernel
theorem dX0_needs_73 : decode cX0_needs 73 = .ok (.if_icmp .ne 7, 3) := by decide +kernel
theorem dX0_needs_76 : decode cX0_needs 76 = .ok (.iconst 1, 1) := by decide +kernel
theorem dX0_needs_77 : decode cX0_needs 77 = .ok (.goto 4, 3) := by decide +kernel
theorem dX0_needs_80 : decode cX0_needs 80 = .ok (.iconst 0, 1) := by decide +kernel
theorem dX0_needs_81 : decode cX0_needs 81 = .ok (.ireturn, 1) := by decide +kernel
theorem dX0_reasonAgainst_0 : decode cX0_reasonAgainst 0 = .ok (.aload_n 0, 1) := by decide +kernel
theorem dX0_reasonAgainst_1 : decode cX0_reasonAgainst 1 = .ok (.iconst 0, 1) := by decide +kernel
theorem dX0_reasonAgainst_2 : decode cX0_reasonAgainst 2 = .ok (.iload_n 2, 1) := by decide +kernel
theorem dX0_reasonAgainst_3 : decode cX0_reasonAgainst 3 = .ok (.invokevirtual 54, 3) := by decide +kernel
theorem dX0_reasonAgainst_6 : decode cX0_reasonAgainst 6 = .ok (.ifCond .eq 5, 3) := by decide +kernel
theorem dX0_reasonAgainst_9 : decode cX0_reasonAgainst 9 = .ok (.iconst 1, 1) := by decide +kernel
theorem dX0_reasonAgainst_10 : decode cX0_reasonAgainst 10 = .ok (.ireturn, 1) := by decide +kernel
theorem dX0_reasonAgainst_11 : decode cX0_reasonAgainst 11 = .ok (.aload_n 0, 1) := by decide +kernel
theorem dX0_reasonAgainst_12 : decode cX0_reasonAgainst 12 = .ok (.iconst 1, 1) := by decide +kernel
theorem dX0_reasonAgainst_13 : decode cX0_reasonAgainst 13 = .ok (.aload_n 1, 1) := by decide +kernel
theorem dX0_reasonAgainst_14 : decode cX0_reasonAgainst 14 = .ok (.getfield 45, 3) := by decide +kernel
theorem dX0_reasonAgainst_17 : decode cX0_reasonAgainst 17 = .ok (.invokevirtual 54, 3) := by decide +kernel
theorem dX0_reasonAgainst_20 : decode cX0_reasonAgainst 20 = .ok (.ifCond .eq 5, 3) := by decide +kernel
theorem dX0_reasonAgainst_23 : decode cX0_reasonAgainst 23 = .ok (.iconst 2, 1) := by decide +kernel
theorem dX0_reasonAgainst_24 : decode cX0_reasonAgainst 24 = .ok (.ireturn, 1) := by decide +kernel
theorem dX0_reasonAgainst_25 : decode cX0_reasonAgainst 25 = .ok (.aload_n 0, 1) := by decide +kernel
theorem dX0_reasonAgainst_26 : decode cX0_reasonAgainst 26 = .ok (.iconst 2, 1) := by decide +kernel
theorem dX0_reasonAgainst_27 : decode cX0_reasonAgainst 27 = .ok (.aload_n 1, 1) := by decide +kernel
theorem dX0_reasonAgainst_28 : decode cX0_reasonAgainst 28 = .ok (.getfield 58, 3) := by decide +kernel
theorem dX0_reasonAgainst_31 : decode cX0_reasonAgainst 31 = .ok (.invokevirtual 54, 3) := by decide +kernel
theorem dX0_reasonAgainst_34 : decode cX0_reasonAgainst 34 = .ok (.ifCond .ne 15, 3) := by decide +kernel
theorem dX0_reasonAgainst_37 : decode cX0_reasonAgainst 37 = .ok (.aload_n 0, 1) := by decide +kernel
theorem dX0_reasonAgainst_38 : decode cX0_reasonAgainst 38 = .ok (.iconst 2, 1) := by decide +kernel
theorem dX0_reasonAgainst_39 : decode cX0_reasonAgainst 39 = .ok (.aload_n 1, 1) := by decide +kernel
theorem dX0_reasonAgainst_40 : decode cX0_reasonAgainst 40 = .ok (.getfield 61, 3) := by decide +kernel
theorem dX0_reasonAgainst_43 : decode cX0_reasonAgainst 43 = .ok (.invokevirtual 54, 3) := by decide +kernel
theorem dX0_reasonAgainst_46 : decode cX0_reasonAgainst 46 = .ok (.ifCond .eq 5, 3) := by decide +kernel
theorem dX0_reasonAgainst_49 : decode cX0_reasonAgainst 49 = .ok (.iconst 3, 1) := by decide +kernel
theorem dX0_reasonAgainst_50 : decode cX0_reasonAgainst 50 = .ok (.ireturn, 1) := by decide +kernel
theorem dX0_reasonAgainst_51 : decode cX0_reasonAgainst 51 = .ok (.iload_n 3, 1) := by decide +kernel
theorem dX0_reasonAgainst_52 : decode cX0_reasonAgainst 52 = .ok (.iconst (-1), 1) := by decide +kernel
theorem dX0_reasonAgainst_53 : decode cX0_reasonAgainst 53 = .ok (.if_icmp .eq 16, 3) := by decide +kernel
theorem dX0_reasonAgainst_56 : decode cX0_reasonAgainst 56 = .ok (.aload_n 0, 1) := by decide +kernel
theorem dX0_reasonAgainst_57 : decode cX0_reasonAgainst 57 = .ok (.iconst 3, 1) := by decide +kernel
theorem dX0_reasonAgainst_58 : decode cX0_reasonAgainst 58 = .ok (.iload_n 3, 1) := by decide +kernel
theorem dX0_reasonAgainst_59 : decode cX0_reasonAgainst 59 = .ok (.invokevirtual 54, 3) := by decide +kernel
theorem dX0_reasonAgainst_62 : decode cX0_reasonAgainst 62 = .ok (.ifCond .eq 7, 3) := by decide +kernel
theorem dX0_reasonAgainst_65 : decode cX0_reasonAgainst 65 = .ok (.iconst 4, 1) := by decide +kernel
theorem dX0_reasonAgainst_66 : decode cX0_reasonAgainst 66 = .ok (.goto 4, 3) := by decide +kernel
theorem dX0_reasonAgainst_69 : decode cX0_reasonAgainst 69 = .ok (.iconst 0, 1) := by decide +kernel
theorem dX0_reasonAgainst_70 : decode cX0_reasonAgainst 70 = .ok (.ireturn, 1) := by decide +kernel
theorem dX0_tell_0 : decode cX0_tell 0 = .ok (.iload_n 1, 1) := by decide +kernel
theorem dX0_tell_1 : decode cX0_tell 1 = .ok (.aload_n 0, 1) := by decide +kernel
theorem dX0_tell_2 : decode cX0_tell 2 = .ok (.getfield 38, 3) := by decide +kernel
theorem dX0_tell_5 : decode cX0_tell 5 = .ok (.getfield 58, 3) := by decide +kernel
theorem dX0_tell_8 : decode cX0_tell 8 = .ok (.if_icmp .ne 8, 3) := by decide +kernel
theorem dX0_tell_11 : decode cX0_tell 11 = .ok (.aload_n 0, 1) := by decide +kernel
theorem dX0_tell_12 : decode cX0_tell 12 = .ok (.iconst 1, 1) := by decide +kernel
theorem dX0_tell_13 : decode cX0_tell 13 = .ok (.putfield 28, 3) := by decide +kernel
theorem dX0_tell_16 : decode cX0_tell 16 = .ok (.iload_n 1, 1) := by decide +kernel
theorem dX0_tell_17 : decode cX0_tell 17 = .ok (.aload_n 0, 1) := by decide +kernel
theorem dX0_tell_18 : decode cX0_tell 18 = .ok (.getfield 38, 3) := by decide +kernel
theorem dX0_tell_21 : decode cX0_tell 21 = .ok (.getfield 61, 3) := by decide +kernel
theorem dX0_tell_24 : decode cX0_tell 24 = .ok (.if_icmp .ne 8, 3) := by decide +kernel
theorem dX0_tell_27 : decode cX0_tell 27 = .ok (.aload_n 0, 1) := by decide +kernel
theorem dX0_tell_28 : decode cX0_tell 28 = .ok (.iconst 1, 1) := by decide +kernel
theorem dX0_tell_29 : decode cX0_tell 29 = .ok (.putfield 32, 3) := by decide +kernel
theorem dX0_tell_32 : decode cX0_tell 32 = .ok (.return_, 1) := by decide +kernel
theorem dX0_notices_0 : decode cX0_notices 0 = .ok (.aload_n 0, 1) := by decide +kernel
theorem dX0_notices_1 : decode cX0_notices 1 = .ok (.getfield 28, 3) := by decide +kernel
theorem dX0_notices_4 : decode cX0_notices 4 = .ok (.ifCond .eq 7, 3) := by decide +kernel
theorem dX0_notices_7 : decode cX0_notices 7 = .ok (.iconst 1, 1) := by decide +kernel
theorem dX0_notices_8 : decode cX0_notices 8 = .ok (.goto 4, 3) := by decide +kernel
theorem dX0_notices_11 : decode cX0_notices 11 = .ok (.iconst 0, 1) := by decide +kernel
theorem dX0_notices_12 : decode cX0_notices 12 = .ok (.aload_n 0, 1) := by decide +kernel
theorem dX0_notices_13 : decode cX0_notices 13 = .ok (.getfield 32, 3) := by decide +kernel
theorem dX0_notices_16 : decode cX0_notices 16 = .ok (.ifCond .eq 7, 3) := by decide +kernel
theorem dX0_notices_19 : decode cX0_notices 19 = .ok (.iconst 1, 1) := by decide +kernel
theorem dX0_notices_20 : decode cX0_notices 20 = .ok (.goto 4, 3) := by decide +kernel
theorem dX0_notices_23 : decode cX0_notices 23 = .ok (.iconst 0, 1) := by decide +kernel
theorem dX0_notices_24 : decode cX0_notices 24 = .ok (.iadd, 1) := by decide +kernel
theorem dX0_notices_25 : decode cX0_notices 25 = .ok (.ireturn, 1) := by decide +kernel
theorem dX0_charged_0 : decode cX0_charged 0 = .ok (.iconst 0, 1) := by decide +kernel
theorem dX0_charged_1 : decode cX0_charged 1 = .ok (.istore_n 1, 1) := by decide +kernel
theorem dX0_charged_2 : decode cX0_charged 2 = .ok (.iconst 0, 1) := by decide +kernel
theorem dX0_charged_3 : decode cX0_charged 3 = .ok (.istore_n 2, 1) := by decide +kernel
theorem dX0_charged_4 : decode cX0_charged 4 = .ok (.iload_n 2, 1) := by decide +kernel
theorem dX0_charged_5 : decode cX0_charged 5 = .ok (.aload_n 0, 1) := by decide +kernel
theorem dX0_charged_6 : decode cX0_charged 6 = .ok (.getfield 9, 3) := by decide +kernel
theorem dX0_charged_9 : decode cX0_charged 9 = .ok (.arraylength, 1) := by decide +kernel
theorem dX0_charged_10 : decode cX0_charged 10 = .ok (.if_icmp .ge 18, 3) := by decide +kernel
theorem dX0_charged_13 : decode cX0_charged 13 = .ok (.iload_n 1, 1) := by decide +kernel
theorem dX0_charged_14 : decode cX0_charged 14 = .ok (.aload_n 0, 1) := by decide +kernel
theorem dX0_charged_15 : decode cX0_charged 15 = .ok (.getfield 9, 3) := by decide +kernel
theorem dX0_charged_18 : decode cX0_charged 18 = .ok (.iload_n 2, 1) := by decide +kernel
theorem dX0_charged_19 : decode cX0_charged 19 = .ok (.iaload, 1) := by decide +kernel
theorem dX0_charged_20 : decode cX0_charged 20 = .ok (.iadd, 1) := by decide +kernel
theorem dX0_charged_21 : decode cX0_charged 21 = .ok (.istore_n 1, 1) := by decide +kernel
theorem dX0_charged_22 : decode cX0_charged 22 = .ok (.iinc 2 1, 3) := by decide +kernel
theorem dX0_charged_25 : decode cX0_charged 25 = .ok (.goto (-21), 3) := by decide +kernel
theorem dX0_charged_28 : decode cX0_charged 28 = .ok (.iload_n 1, 1) := by decide +kernel
theorem dX0_charged_29 : decode cX0_charged 29 = .ok (.ireturn, 1) := by decide +kernel
theorem dX0_end_0 : decode cX0_end 0 = .ok (.aload_n 0, 1) := by decide +kernel
theorem dX0_end_1 : decode cX0_end 1 = .ok (.getfield 38, 3) := by decide +kernel
theorem dX0_end_4 : decode cX0_end 4 = .ok (.invokevirtual 64, 3) := by decide +kernel
theorem dX0_end_7 : decode cX0_end 7 = .ok (.ifCond .eq 33, 3) := by decide +kernel
theorem dX0_end_10 : decode cX0_end 10 = .ok (.aload_n 0, 1) := by decide +kernel
theorem dX0_end_11 : decode cX0_end 11 = .ok (.getfield 28, 3) := by decide +kernel
theorem dX0_end_14 : decode cX0_end 14 = .ok (.ifCond .eq 26, 3) := by decide +kernel
theorem dX0_end_17 : decode cX0_end 17 = .ok (.aload_n 0, 1) := by decide +kernel
theorem dX0_end_18 : decode cX0_end 18 = .ok (.getfield 32, 3) := by decide +kernel
theorem dX0_end_21 : decode cX0_end 21 = .ok (.ifCond .eq 19, 3) := by decide +kernel
theorem dX0_end_24 : decode cX0_end 24 = .ok (.aload_n 0, 1) := by decide +kernel
theorem dX0_end_25 : decode cX0_end 25 = .ok (.iconst 1, 1) := by decide +kernel
theorem dX0_end_26 : decode cX0_end 26 = .ok (.putfield 15, 3) := by decide +kernel
theorem dX0_end_29 : decode cX0_end 29 = .ok (.aload_n 0, 1) := by decide +kernel
theorem dX0_end_30 : decode cX0_end 30 = .ok (.getfield 38, 3) := by decide +kernel
theorem dX0_end_33 : decode cX0_end 33 = .ok (.iconst 1, 1) := by decide +kernel
theorem dX0_end_34 : decode cX0_end 34 = .ok (.putfield 68, 3) := by decide +kernel
theorem dX0_end_37 : decode cX0_end 37 = .ok (.goto 8, 3) := by decide +kernel
theorem dX0_end_40 : decode cX0_end 40 = .ok (.aload_n 0, 1) := by decide +kernel
theorem dX0_end_41 : decode cX0_end 41 = .ok (.iconst 2, 1) := by decide +kernel
theorem dX0_end_42 : decode cX0_end 42 = .ok (.putfield 15, 3) := by decide +kernel
theorem dX0_end_45 : decode cX0_end 45 = .ok (.return_, 1) := by decide +kernel
theorem dX1_init_0 : decode cX1_init 0 = .ok (.aload_n 0, 1) := by decide +kernel
theorem dX1_init_1 : decode cX1_init 1 = .ok (.invokespecial 3, 3) := by decide +kernel
theorem dX1_init_4 : decode cX1_init 4 = .ok (.aload_n 0, 1) := by decide +kernel
theorem dX1_init_5 : decode cX1_init 5 = .ok (.iconst 0, 1) := by decide +kernel
theorem dX1_init_6 : decode cX1_init 6 = .ok (.putfield 9, 3) := by decide +kernel
theorem dX1_init_9 : decode cX1_init 9 = .ok (.aload_n 0, 1) := by decide +kernel
theorem dX1_init_10 : decode cX1_init 10 = .ok (.bipush 10, 2) := by decide +kernel
theorem dX1_init_12 : decode cX1_init 12 = .ok (.putfield 15, 3) := by decide +kernel
theorem dX1_init_15 : decode cX1_init 15 = .ok (.aload_n 0, 1) := by decide +kernel
theorem dX1_init_16 : decode cX1_init 16 = .ok (.bipush 16, 2) := by decide +kernel
theorem dX1_init_18 : decode cX1_init 18 = .ok (.newarray .int, 2) := by decide +kernel
theorem dX1_init_20 : decode cX1_init 20 = .ok (.putfield 18, 3) := by decide +kernel
theorem dX1_init_23 : decode cX1_init 23 = .ok (.aload_n 0, 1) := by decide +kernel
theorem dX1_init_24 : decode cX1_init 24 = .ok (.bipush 16, 2) := by decide +kernel
theorem dX1_init_26 : decode cX1_init 26 = .ok (.anewarray 22, 3) := by decide +kernel
theorem dX1_init_29 : decode cX1_init 29 = .ok (.putfield 24, 3) := by decide +kernel
theorem dX1_init_32 : decode cX1_init 32 = .ok (.aload_n 0, 1) := by decide +kernel
theorem dX1_init_33 : decode cX1_init 33 = .ok (.bipush 16, 2) := by decide +kernel
theorem dX1_init_35 : decode cX1_init 35 = .ok (.newarray .int, 2) := by decide +kernel
theorem dX1_init_37 : decode cX1_init 37 = .ok (.putfield 28, 3) := by decide +kernel
theorem dX1_init_40 : decode cX1_init 40 = .ok (.return_, 1) := by decide +kernel
theorem dX1_placeOf_0 : decode cX1_placeOf 0 = .ok (.iload_n 0, 1) := by decide +kernel
theorem dX1_placeOf_1 : decode cX1_placeOf 1 = .ok (.bipush 15, 2) := by decide +kernel
theorem dX1_placeOf_3 : decode cX1_placeOf 3 = .ok (.iand, 1) := by decide +kernel
theorem dX1_placeOf_4 : decode cX1_placeOf 4 = .ok (.ireturn, 1) := by decide +kernel
theorem dX1_knows_0 : decode cX1_knows 0 = .ok (.aload_n 0, 1) := by decide +kernel
theorem dX1_knows_1 : decode cX1_knows 1 = .ok (.getfield 9, 3) := by decide +kernel
theorem dX1_knows_4 : decode cX1_knows 4 = .ok (.iload_n 1, 1) := by decide +kernel
theorem dX1_knows_5 : decode cX1_knows 5 = .ok (.ishr, 1) := by decide +kernel
theorem dX1_knows_6 : decode cX1_knows 6 = .ok (.iconst 1, 1) := by decide +kernel
theorem dX1_knows_7 : decode cX1_knows 7 = .ok (.iand, 1) := by decide +kernel
theorem dX1_knows_8 : decode cX1_knows 8 = .ok (.iconst 1, 1) := by decide +kernel
theorem dX1_knows_9 : decode cX1_knows 9 = .ok (.if_icmp .ne 7, 3) := by decide +kernel
theorem dX1_knows_12 : decode cX1_knows 12 = .ok (.iconst 1, 1) := by decide +kernel
theorem dX1_knows_13 : decode cX1_knows 13 = .ok (.goto 4, 3) := by decide +kernel
theorem dX1_knows_16 : decode cX1_knows 16 = .ok (.iconst 0, 1) := by decide +kernel
theorem dX1_knows_17 : decode cX1_knows 17 = .ok (.ireturn, 1) := by decide +kernel
theorem dX1_payer_0 : decode cX1_payer 0 = .ok (.iload_n 1, 1) := by decide +kernel
theorem dX1_payer_1 : decode cX1_payer 1 = .ok (.invokestatic 31, 3) := by decide +kernel
theorem dX1_payer_4 : decode cX1_payer 4 = .ok (.istore_n 3, 1) := by decide +kernel
theorem dX1_payer_5 : decode cX1_payer 5 = .ok (.iload_n 1, 1) := by decide +kernel
theorem dX1_payer_6 : decode cX1_payer 6 = .ok (.iload_n 2, 1) := by decide +kernel
theorem dX1_payer_7 : decode cX1_payer 7 = .ok (.if_icmp .le 22, 3) := by decide +kernel
theorem dX1_payer_10 : decode cX1_payer 10 = .ok (.aload_n 0, 1) := by decide +kernel
theorem dX1_payer_11 : decode cX1_payer 11 = .ok (.getfield 18, 3) := by decide +kernel
theorem dX1_payer_14 : decode cX1_payer 14 = .ok (.iload_n 3, 1) := by decide +kernel
theorem dX1_payer_15 : decode cX1_payer 15 = .ok (.iaload, 1) := by decide +kernel
theorem dX1_payer_16 : decode cX1_payer 16 = .ok (.iload_n 1, 1) := by decide +kernel
theorem dX1_payer_17 : decode cX1_payer 17 = .ok (.if_icmp .ne 12, 3) := by decide +kernel
theorem dX1_payer_20 : decode cX1_payer 20 = .ok (.aload_n 0, 1) := by decide +kernel
theorem dX1_payer_21 : decode cX1_payer 21 = .ok (.getfield 24, 3) := by decide +kernel
theorem dX1_payer_24 : decode cX1_payer 24 = .ok (.iload_n 3, 1) := by decide +kernel
theorem dX1_payer_25 : decode cX1_payer 25 = .ok (.aaload, 1) := by decide +kernel
theorem dX1_payer_26 : decode cX1_payer 26 = .ok (.goto 4, 3) := by decide +kernel
theorem dX1_payer_29 : decode cX1_payer 29 = .ok (.aconst_null, 1) := by decide +kernel
theorem dX1_payer_30 : decode cX1_payer 30 = .ok (.areturn, 1) := by decide +kernel
theorem dX1_keep_0 : decode cX1_keep 0 = .ok (.iload_n 1, 1) := by decide +kernel
theorem dX1_keep_1 : decode cX1_keep 1 = .ok (.invokestatic 31, 3) := by decide +kernel
theorem dX1_keep_4 : decode cX1_keep 4 = .ok (.istore 4, 2) := by decide +kernel
theorem dX1_keep_6 : decode cX1_keep 6 = .ok (.aload_n 0, 1) := by decide +kernel
theorem dX1_keep_7 : decode cX1_keep 7 = .ok (.getfield 18, 3) := by decide +kernel
theorem dX1_keep_10 : decode cX1_keep 10 = .ok (.iload 4, 2) := by decide +kernel
theorem dX1_keep_12 : decode cX1_keep 12 = .ok (.iload_n 1, 1) := by decide +kernel
theorem dX1_keep_13 : decode cX1_keep 13 = .ok (.iastore, 1) := by decide +kernel
theorem dX1_keep_14 : decode cX1_keep 14 = .ok (.aload_n 0, 1) := by decide +kernel
theorem dX1_keep_15 : decode cX1_keep 15 = .ok (.getfield 24, 3) := by decide +kernel
theorem dX1_keep_18 : decode cX1_keep 18 = .ok (.iload 4, 2) := by decide +kernel
theorem dX1_keep_20 : decode cX1_keep 20 = .ok (.aload_n 2, 1) := by decide +kernel
theorem dX1_keep_21 : decode cX1_keep 21 = .ok (.aastore, 1) := by decide +kernel
theorem dX1_keep_22 : decode cX1_keep 22 = .ok (.aload_n 0, 1) := by decide +kernel
theorem dX1_keep_23 : decode cX1_keep 23 = .ok (.getfield 28, 3) := by decide +kernel
theorem dX1_keep_26 : decode cX1_keep 26 = .ok (.iload 4, 2) := by decide +kernel
theorem dX1_keep_28 : decode cX1_keep 28 = .ok (.iload_n 3, 1) := by decide +kernel
theorem dX1_keep_29 : decode cX1_keep 29 = .ok (.iastore, 1) := by decide +kernel
theorem dX1_keep_30 : decode cX1_keep 30 = .ok (.return_, 1) := by decide +kernel
theorem dX1_take_0 : decode cX1_take 0 = .ok (.aload_n 0, 1) := by decide +kernel
theorem dX1_take_1 : decode cX1_take 1 = .ok (.iload_n 1, 1) := by decide +kernel
theorem dX1_take_2 : decode cX1_take 2 = .ok (.iload_n 2, 1) := by decide +kernel
theorem dX1_take_3 : decode cX1_take 3 = .ok (.invokevirtual 35, 3) := by decide +kernel
theorem dX1_take_6 : decode cX1_take 6 = .ok (.astore 4, 2) := by decide +kernel
theorem dX1_take_8 : decode cX1_take 8 = .ok (.aload 4, 2) := by decide +kernel
theorem dX1_take_10 : decode cX1_take 10 = .ok (.ifnonnull 8, 3) := by decide +kernel
theorem dX1_take_13 : decode cX1_take 13 = .ok (.aload_n 0, 1) := by decide +kernel
theorem dX1_take_14 : decode cX1_take 14 = .ok (.getfield 15, 3) := by decide +kernel
theorem dX1_take_17 : decode cX1_take 17 = .ok (.ireturn, 1) := by decide +kernel
theorem dX1_take_18 : decode cX1_take 18 = .ok (.iload_n 1, 1) := by decide +kernel
theorem dX1_take_19 : decode cX1_take 19 = .ok (.invokestatic 31, 3) := by decide +kernel
theorem dX1_take_22 : decode cX1_take 22 = .ok (.istore 5, 2) := by decide +kernel
theorem dX1_take_24 : decode cX1_take 24 = .ok (.aload_n 0, 1) := by decide +kernel
theorem dX1_take_25 : decode cX1_take 25 = .ok (.getfield 24, 3) := by decide +kernel
theorem dX1_take_28 : decode cX1_take 28 = .ok (.iload 5, 2) := by decide +kernel
theorem dX1_take_30 : decode cX1_take 30 = .ok (.aconst_null, 1) := by decide +kernel
theorem dX1_take_31 : decode cX1_take 31 = .ok (.aastore, 1) := by decide +kernel
theorem dX1_take_32 : decode cX1_take 32 = .ok (.aload 4, 2) := by decide +kernel
theorem dX1_take_34 : decode cX1_take 34 = .ok (.aload_n 3, 1) := by decide +kernel
theorem dX1_take_35 : decode cX1_take 35 = .ok (.if_acmp .ne 5, 3) := by decide +kernel
theorem dX1_take_38 : decode cX1_take 38 = .ok (.iconst 0, 1) := by decide +kernel
theorem dX1_take_39 : decode cX1_take 39 = .ok (.ireturn, 1) := by decide +kernel
theorem dX1_take_40 : decode cX1_take 40 = .ok (.aload_n 0, 1) := by decide +kernel
theorem dX1_take_41 : decode cX1_take 41 = .ok (.getfield 28, 3) := by decide +kernel
theorem dX1_take_44 : decode cX1_take 44 = .ok (.iload 5, 2) := by decide +kernel
theorem dX1_take_46 : decode cX1_take 46 = .ok (.iaload, 1) := by decide +kernel
theorem dX1_take_47 : decode cX1_take 47 = .ok (.iconst 2, 1) := by decide +kernel
theorem dX1_take_48 : decode cX1_take 48 = .ok (.idiv, 1) := by decide +kernel
theorem dX1_take_49 : decode cX1_take 49 = .ok (.istore 6, 2) := by decide +kernel
theorem dX1_take_51 : decode cX1_take 51 = .ok (.aload 4, 2) := by decide +kernel
theorem dX1_take_53 : decode cX1_take 53 = .ok (.dup, 1) := by decide +kernel
theorem dX1_take_54 : decode cX1_take 54 = .ok (.getfield 39, 3) := by decide +kernel
theorem dX1_take_57 : decode cX1_take 57 = .ok (.iload 6, 2) := by decide +kernel
theorem dX1_take_59 : decode cX1_take 59 = .ok (.iadd, 1) := by decide +kernel
theorem dX1_take_60 : decode cX1_take 60 = .ok (.putfield 39, 3) := by decide +kernel
theorem dX1_take_63 : decode cX1_take 63 = .ok (.iload 6, 2) := by decide +kernel
theorem dX1_take_65 : decode cX1_take 65 = .ok (.ireturn, 1) := by decide +kernel
theorem dX1_hoursPaidBy_0 : decode cX1_hoursPaidBy 0 = .ok (.iconst 0, 1) := by decide +kernel
theorem dX1_hoursPaidBy_1 : decode cX1_hoursPaidBy 1 = .ok (.istore_n 3, 1) := by decide +kernel
theorem dX1_hoursPaidBy_2 : decode cX1_hoursPaidBy 2 = .ok (.iconst 0, 1) := by decide +kernel
theorem dX1_hoursPaidBy_3 : decode cX1_hoursPaidBy 3 = .ok (.istore 4, 2) := by decide +kernel
theorem dX1_hoursPaidBy_5 : decode cX1_hoursPaidBy 5 = .ok (.iload 4, 2) := by decide +kernel
theorem dX1_hoursPaidBy_7 : decode cX1_hoursPaidBy 7 = .ok (.bipush 16, 2) := by decide +kernel
theorem dX1_hoursPaidBy_9 : decode cX1_hoursPaidBy 9 = .ok (.if_icmp .ge 34, 3) := by decide +kernel
theorem dX1_hoursPaidBy_12 : decode cX1_hoursPaidBy 12 = .ok (.aload_n 0, 1) := by decide +kernel
theorem dX1_hoursPaidBy_13 : decode cX1_hoursPaidBy 13 = .ok (.getfield 24, 3) := by decide +kernel
theorem dX1_hoursPaidBy_16 : decode cX1_hoursPaidBy 16 = .ok (.iload 4, 2) := by decide +kernel
theorem dX1_hoursPaidBy_18 : decode cX1_hoursPaidBy 18 = .ok (.aaload, 1) := by decide +kernel
theorem dX1_hoursPaidBy_19 : decode cX1_hoursPaidBy 19 = .ok (.aload_n 1, 1) := by decide +kernel
theorem dX1_hoursPaidBy_20 : decode cX1_hoursPaidBy 20 = .ok (.if_acmp .ne 17, 3) := by decide +kernel
theorem dX1_hoursPaidBy_23 : decode cX1_hoursPaidBy 23 = .ok (.aload_n 0, 1) := by decide +kernel
theorem dX1_hoursPaidBy_24 : decode cX1_hoursPaidBy 24 = .ok (.getfield 18, 3) := by decide +kernel
theorem dX1_hoursPaidBy_27 : decode cX1_hoursPaidBy 27 = .ok (.iload 4, 2) := by decide +kernel
theorem dX1_hoursPaidBy_29 : decode cX1_hoursPaidBy 29 = .ok (.iaload, 1) := by decide +kernel
theorem dX1_hoursPaidBy_30 : decode cX1_hoursPaidBy 30 = .ok (.iload_n 2, 1) := by decide +kernel
theorem dX1_hoursPaidBy_31 : decode cX1_hoursPaidBy 31 = .ok (.if_icmp .le 6, 3) := by decide +kernel
theorem dX1_hoursPaidBy_34 : decode cX1_hoursPaidBy 34 = .ok (.iinc 3 1, 3) := by decide +kernel
theorem dX1_hoursPaidBy_37 : decode cX1_hoursPaidBy 37 = .ok (.iinc 4 1, 3) := by decide +kernel
theorem dX1_hoursPaidBy_40 : decode cX1_hoursPaidBy 40 = .ok (.goto (-35), 3) := by decide +kernel
theorem dX1_hoursPaidBy_43 : decode cX1_hoursPaidBy 43 = .ok (.iload_n 3, 1) := by decide +kernel
theorem dX1_hoursPaidBy_44 : decode cX1_hoursPaidBy 44 = .ok (.ireturn, 1) := by decide +kernel
theorem dX2_init_0 : decode cX2_init 0 = .ok (.aload_n 0, 1) := by decide +kernel
theorem dX2_init_1 : decode cX2_init 1 = .ok (.invokespecial 3, 3) := by decide +kernel
theorem dX2_init_4 : decode cX2_init 4 = .ok (.aload_n 0, 1) := by decide +kernel
theorem dX2_init_5 : decode cX2_init 5 = .ok (.iconst 0, 1) := by decide +kernel
theorem dX2_init_6 : decode cX2_init 6 = .ok (.putfield 9, 3) := by decide +kernel
theorem dX2_init_9 : decode cX2_init 9 = .ok (.aload_n 0, 1) := by decide +kernel
theorem dX2_init_10 : decode cX2_init 10 = .ok (.iconst 0, 1) := by decide +kernel
theorem dX2_init_11 : decode cX2_init 11 = .ok (.putfield 15, 3) := by decide +kernel
theorem dX2_init_14 : decode cX2_init 14 = .ok (.aload_n 0, 1) := by decide +kernel
theorem dX2_init_15 : decode cX2_init 15 = .ok (.iload_n 1, 1) := by decide +kernel
theorem dX2_init_16 : decode cX2_init 16 = .ok (.putfield 18, 3) := by decide +kernel
theorem dX2_init_19 : decode cX2_init 19 = .ok (.aload_n 0, 1) := by decide +kernel
theorem dX2_init_20 : decode cX2_init 20 = .ok (.iload_n 2, 1) := by decide +kernel
theorem dX2_init_21 : decode cX2_init 21 = .ok (.putfield 21, 3) := by decide +kernel
theorem dX2_init_24 : decode cX2_init 24 = .ok (.aload_n 0, 1) := by decide +kernel
theorem dX2_init_25 : decode cX2_init 25 = .ok (.iload_n 3, 1) := by decide +kernel
theorem dX2_init_26 : decode cX2_init 26 = .ok (.putfield 24, 3) := by decide +kernel
theorem dX2_init_29 : decode cX2_init 29 = .ok (.aload_n 0, 1) := by decide +kernel
theorem dX2_init_30 : decode cX2_init 30 = .ok (.iload 4, 2) := by decide +kernel
theorem dX2_init_32 : decode cX2_init 32 = .ok (.putfield 27, 3) := by decide +kernel
theorem dX2_init_35 : decode cX2_init 35 = .ok (.aload_n 0, 1) := by decide +kernel
theorem dX2_init_36 : decode cX2_init 36 = .ok (.iload 5, 2) := by decide +kernel
theorem dX2_init_38 : decode cX2_init 38 = .ok (.putfield 30, 3) := by decide +kernel
theorem dX2_init_41 : decode cX2_init 41 = .ok (.aload_n 0, 1) := by decide +kernel
theorem dX2_init_42 : decode cX2_init 42 = .ok (.iload 6, 2) := by decide +kernel
theorem dX2_init_44 : decode cX2_init 44 = .ok (.putfield 33, 3) := by decide +kernel
theorem dX2_init_47 : decode cX2_init 47 = .ok (.return_, 1) := by decide +kernel
theorem dX2_isOpen_0 : decode cX2_isOpen 0 = .ok (.aload_n 0, 1) := by decide +kernel
theorem dX2_isOpen_1 : decode cX2_isOpen 1 = .ok (.getfield 9, 3) := by decide +kernel
theorem dX2_isOpen_4 : decode cX2_isOpen 4 = .ok (.ifCond .eq 11, 3) := by decide +kernel
theorem dX2_isOpen_7 : decode cX2_isOpen 7 = .ok (.aload_n 0, 1) := by decide +kernel
theorem dX2_isOpen_8 : decode cX2_isOpen 8 = .ok (.getfield 9, 3) := by decide +kernel
theorem dX2_isOpen_11 : decode cX2_isOpen 11 = .ok (.iconst 1, 1) := by decide +kernel
theorem dX2_isOpen_12 : decode cX2_isOpen 12 = .ok (.if_icmp .ne 7, 3) := by decide +kernel
theorem dX2_isOpen_15 : decode cX2_isOpen 15 = .ok (.iconst 1, 1) := by decide +kernel
theorem dX2_isOpen_16 : decode cX2_isOpen 16 = .ok (.goto 4, 3) := by decide +kernel
theorem dX2_isOpen_19 : decode cX2_isOpen 19 = .ok (.iconst 0, 1) := by decide +kernel
theorem dX2_isOpen_20 : decode cX2_isOpen 20 = .ok (.ireturn, 1) := by decide +kernel
theorem dX2_isOf_0 : decode cX2_isOf 0 = .ok (.iload_n 1, 1) := by decide +kernel
theorem dX2_isOf_1 : decode cX2_isOf 1 = .ok (.aload_n 0, 1) := by decide +kernel
theorem dX2_isOf_2 : decode cX2_isOf 2 = .ok (.getfield 24, 3) := by decide +kernel
theorem dX2_isOf_5 : decode cX2_isOf 5 = .ok (.if_icmp .eq 11, 3) := by decide +kernel
theorem dX2_isOf_8 : decode cX2_isOf 8 = .ok (.iload_n 1, 1) := by decide +kernel
theorem dX2_isOf_9 : decode cX2_isOf 9 = .ok (.aload_n 0, 1) := by decide +kernel
theorem dX2_isOf_10 : decode cX2_isOf 10 = .ok (.getfield 27, 3) := by decide +kernel
theorem dX2_isOf_13 : decode cX2_isOf 13 = .ok (.if_icmp .ne 7, 3) := by decide +kernel
theorem dX2_isOf_16 : decode cX2_isOf 16 = .ok (.iconst 1, 1) := by decide +kernel
theorem dX2_isOf_17 : decode cX2_isOf 17 = .ok (.goto 4, 3) := by decide +kernel
theorem dX2_isOf_20 : decode cX2_isOf 20 = .ok (.iconst 0, 1) := by decide +kernel
theorem dX2_isOf_21 : decode cX2_isOf 21 = .ok (.ireturn, 1) := by decide +kernel
theorem dX2_runTerm_0 : decode cX2_runTerm 0 = .ok (.aload_n 0, 1) := by decide +kernel
theorem dX2_runTerm_1 : decode cX2_runTerm 1 = .ok (.getfield 9, 3) := by decide +kernel
theorem dX2_runTerm_4 : decode cX2_runTerm 4 = .ok (.iconst 3, 1) := by decide +kernel
theorem dX2_runTerm_5 : decode cX2_runTerm 5 = .ok (.if_icmp .ne 16, 3) := by decide +kernel
theorem dX2_runTerm_8 : decode cX2_runTerm 8 = .ok (.aload_n 0, 1) := by decide +kernel
theorem dX2_runTerm_9 : decode cX2_runTerm 9 = .ok (.dup, 1) := by decide +kernel
theorem dX2_runTerm_10 : decode cX2_runTerm 10 = .ok (.getfield 33, 3) := by decide +kernel
theorem dX2_runTerm_13 : decode cX2_runTerm 13 = .ok (.iconst 1, 1) := by decide +kernel
theorem dX2_runTerm_14 : decode cX2_runTerm 14 = .ok (.iadd, 1) := by decide +kernel
theorem dX2_runTerm_15 : decode cX2_runTerm 15 = .ok (.putfield 33, 3) := by decide +kernel
theorem dX2_runTerm_18 : decode cX2_runTerm 18 = .ok (.goto 23, 3) := by decide +kernel
theorem dX2_runTerm_21 : decode cX2_runTerm 21 = .ok (.aload_n 0, 1) := by decide +kernel
theorem dX2_runTerm_22 : decode cX2_runTerm 22 = .ok (.invokevirtual 36, 3) := by decide +kernel
theorem dX2_runTerm_25 : decode cX2_runTerm 25 = .ok (.ifCond .eq 16, 3) := by decide +kernel
theorem dX2_runTerm_28 : decode cX2_runTerm 28 = .ok (.aload_n 0, 1) := by decide +kernel
theorem dX2_runTerm_29 : decode cX2_runTerm 29 = .ok (.getfield 33, 3) := by decide +kernel
theorem dX2_runTerm_32 : decode cX2_runTerm 32 = .ok (.iload_n 1, 1) := by decide +kernel
theorem dX2_runTerm_33 : decode cX2_runTerm 33 = .ok (.if_icmp .gt 8, 3) := by decide +kernel
theorem dX2_runTerm_36 : decode cX2_runTerm 36 = .ok (.aload_n 0, 1) := by decide +kernel
theorem dX2_runTerm_37 : decode cX2_runTerm 37 = .ok (.iconst 5, 1) := by decide +kernel
theorem dX2_runTerm_38 : decode cX2_runTerm 38 = .ok (.putfield 9, 3) := by decide +kernel
theorem dX2_runTerm_41 : decode cX2_runTerm 41 = .ok (.return_, 1) := by decide +kernel
theorem dX3_init_0 : decode cX3_init 0 = .ok (.aload_n 0, 1) := by decide +kernel
theorem dX3_init_1 : decode cX3_init 1 = .ok (.invokespecial 1, 3) := by decide +kernel
theorem dX3_init_4 : decode cX3_init 4 = .ok (.aload_n 0, 1) := by decide +kernel
theorem dX3_init_5 : decode cX3_init 5 = .ok (.iconst 4, 1) := by decide +kernel
theorem dX3_init_6 : decode cX3_init 6 = .ok (.anewarray 9, 3) := by decide +kernel
theorem dX3_init_9 : decode cX3_init 9 = .ok (.putfield 11, 3) := by decide +kernel
theorem dX3_init_12 : decode cX3_init 12 = .ok (.aload_n 0, 1) := by decide +kernel
theorem dX3_init_13 : decode cX3_init 13 = .ok (.bipush 6, 2) := by decide +kernel
theorem dX3_init_15 : decode cX3_init 15 = .ok (.newarray .boolean, 2) := by decide +kernel
theorem dX3_init_17 : decode cX3_init 17 = .ok (.putfield 15, 3) := by decide +kernel
theorem dX3_init_20 : decode cX3_init 20 = .ok (.aload_n 0, 1) := by decide +kernel
theorem dX3_init_21 : decode cX3_init 21 = .ok (.bipush 12, 2) := by decide +kernel
theorem dX3_init_23 : decode cX3_init 23 = .ok (.anewarray 19, 3) := by decide +kernel
theorem dX3_init_26 : decode cX3_init 26 = .ok (.putfield 21, 3) := by decide +kernel
theorem dX3_init_29 : decode cX3_init 29 = .ok (.aload_n 0, 1) := by decide +kernel
theorem dX3_init_30 : decode cX3_init 30 = .ok (.bipush 24, 2) := by decide +kernel
theorem dX3_init_32 : decode cX3_init 32 = .ok (.anewarray 25, 3) := by decide +kernel
theorem dX3_init_35 : decode cX3_init 35 = .ok (.putfield 27, 3) := by decide +kernel
theorem dX3_init_38 : decode cX3_init 38 = .ok (.aload_n 0, 1) := by decide +kernel
theorem dX3_init_39 : decode cX3_init 39 = .ok (.iconst 0, 1) := by decide +kernel
theorem dX3_init_40 : decode cX3_init 40 = .ok (.putfield 31, 3) := by decide +kernel
theorem dX3_init_43 : decode cX3_init 43 = .ok (.aload_n 0, 1) := by decide +kernel
theorem dX3_init_44 : decode cX3_init 44 = .ok (.iconst 0, 1) := by decide +kernel
theorem dX3_init_45 : decode cX3_init 45 = .ok (.putfield 35, 3) := by decide +kernel
theorem dX3_init_48 : decode cX3_init 48 = .ok (.aload_n 0, 1) := by decide +kernel
theorem dX3_init_49 : decode cX3_init 49 = .ok (.iconst 0, 1) := by decide +kernel
theorem dX3_init_50 : decode cX3_init 50 = .ok (.putfield 38, 3) := by decide +kernel
theorem dX3_init_53 : decode cX3_init 53 = .ok (.iconst 0, 1) := by decide +kernel
theorem dX3_init_54 : decode cX3_init 54 = .ok (.istore_n 1, 1) := by decide +kernel
theorem dX3_init_55 : decode cX3_init 55 = .ok (.iload_n 1, 1) := by decide +kernel
theorem dX3_init_56 : decode cX3_init 56 = .ok (.aload_n 0, 1) := by decide +kernel
theorem dX3_init_57 : decode cX3_init 57 = .ok (.getfield 11, 3) := by decide +kernel
theorem dX3_init_60 : decode cX3_init 60 = .ok (.arraylength, 1) := by decide +kernel
theorem dX3_init_61 : decode cX3_init 61 = .ok (.if_icmp .ge 22, 3) := by decide +kernel
theorem dX3_init_64 : decode cX3_init 64 = .ok (.aload_n 0, 1) := by decide +kernel
theorem dX3_init_65 : decode cX3_init 65 = .ok (.getfield 11, 3) := by decide +kernel
theorem dX3_init_68 : decode cX3_init 68 = .ok (.iload_n 1, 1) := by decide +kernel
theorem dX3_init_69 : decode cX3_init 69 = .ok (.new 9, 3) := by decide +kernel
theorem dX3_init_72 : decode cX3_init 72 = .ok (.dup, 1) := by decide +kernel
theorem dX3_init_73 : decode cX3_init 73 = .ok (.invokespecial 41, 3) := by decide +kernel
theorem dX3_init_76 : decode cX3_init 76 = .ok (.aastore, 1) := by decide +kernel
theorem dX3_init_77 : decode cX3_init 77 = .ok (.iinc 1 1, 3) := by decide +kernel
theorem dX3_init_80 : decode cX3_init 80 = .ok (.goto (-25), 3) := by decide +kernel
theorem dX3_init_83 : decode cX3_init 83 = .ok (.return_, 1) := by decide +kernel
theorem dX3_interpreter_0 : decode cX3_interpreter 0 = .ok (.aload_n 0, 1) := by decide +kernel
theorem dX3_interpreter_1 : decode cX3_interpreter 1 = .ok (.iload_n 1, 1) := by decide +kernel
theorem dX3_interpreter_2 : decode cX3_interpreter 2 = .ok (.invokevirtual 42, 3) := by decide +kernel
theorem dX3_interpreter_5 : decode cX3_interpreter 5 = .ok (.astore 4, 2) := by decide +kernel
theorem dX3_interpreter_7 : decode cX3_interpreter 7 = .ok (.aload 4, 2) := by decide +kernel
theorem dX3_interpreter_9 : decode cX3_interpreter 9 = .ok (.ifnonnull 13, 3) := by decide +kernel
theorem dX3_interpreter_12 : decode cX3_interpreter 12 = .ok (.new 46, 3) := by decide +kernel
theorem dX3_interpreter_15 : decode cX3_interpreter 15 = .ok (.dup, 1) := by decide +kernel
theorem dX3_interpreter_16 : decode cX3_interpreter 16 = .ok (.ldc 48, 2) := by decide +kernel
theorem dX3_interpreter_18 : decode cX3_interpreter 18 = .ok (.invokespecial 50, 3) := by decide +kernel
theorem dX3_interpreter_21 : decode cX3_interpreter 21 = .ok (.athrow, 1) := by decide +kernel
theorem dX3_interpreter_22 : decode cX3_interpreter 22 = .ok (.iload_n 2, 1) := by decide +kernel
theorem dX3_interpreter_23 : decode cX3_interpreter 23 = .ok (.ifCond .lt 20, 3) := by decide +kernel
theorem dX3_interpreter_26 : decode cX3_interpreter 26 = .ok (.iload_n 2, 1) := by decide +kernel
theorem dX3_interpreter_27 : decode cX3_interpreter 27 = .ok (.bipush 15, 2) := by decide +kernel
theorem dX3_interpreter_29 : decode cX3_interpreter 29 = .ok (.if_icmp .gt 14, 3) := by decide +kernel
theorem dX3_interpreter_32 : decode cX3_interpreter 32 = .ok (.iload_n 3, 1) := by decide +kernel
theorem dX3_interpreter_33 : decode cX3_interpreter 33 = .ok (.iconst 1, 1) := by decide +kernel
theorem dX3_interpreter_34 : decode cX3_interpreter 34 = .ok (.if_icmp .lt 9, 3) := by decide +kernel
theorem dX3_interpreter_37 : decode cX3_interpreter 37 = .ok (.iload_n 3, 1) := by decide +kernel
theorem dX3_interpreter_38 : decode cX3_interpreter 38 = .ok (.bipush 99, 2) := by decide +kernel
theorem dX3_interpreter_40 : decode cX3_interpreter 40 = .ok (.if_icmp .le 13, 3) := by decide +kernel
theorem dX3_interpreter_43 : decode cX3_interpreter 43 = .ok (.new 53, 3) := by decide +kernel
theorem dX3_interpreter_46 : decode cX3_interpreter 46 = .ok (.dup, 1) := by decide +kernel
theorem dX3_interpreter_47 : decode cX3_interpreter 47 = .ok (.ldc 55, 2) := by decide +kernel
theorem dX3_interpreter_49 : decode cX3_interpreter 49 = .ok (.invokespecial 57, 3) := by decide +kernel
theorem dX3_interpreter_52 : decode cX3_interpreter 52 = .ok (.athrow, 1) := by decide +kernel
theorem dX3_interpreter_53 : decode cX3_interpreter 53 = .ok (.aload 4, 2) := by decide +kernel
theorem dX3_interpreter_55 : decode cX3_interpreter 55 = .ok (.getfield 58, 3) := by decide +kernel
theorem dX3_interpreter_58 : decode cX3_interpreter 58 = .ok (.istore 5, 2) := by decide +kernel
theorem dX3_interpreter_60 : decode cX3_interpreter 60 = .ok (.aload 4, 2) := by decide +kernel
theorem dX3_interpreter_62 : decode cX3_interpreter 62 = .ok (.iload_n 2, 1) := by decide +kernel
theorem dX3_interpreter_63 : decode cX3_interpreter 63 = .ok (.putfield 61, 3) := by decide +kernel
theorem dX3_interpreter_66 : decode cX3_interpreter 66 = .ok (.aload 4, 2) := by decide +kernel
theorem dX3_interpreter_68 : decode cX3_interpreter 68 = .ok (.iload_n 3, 1) := by decide +kernel
theorem dX3_interpreter_69 : decode cX3_interpreter 69 = .ok (.putfield 58, 3) := by decide +kernel
theorem dX3_interpreter_72 : decode cX3_interpreter 72 = .ok (.iload 5, 2) := by decide +kernel
theorem dX3_interpreter_74 : decode cX3_interpreter 74 = .ok (.ireturn, 1) := by decide +kernel
theorem dX3_waive_0 : decode cX3_waive 0 = .ok (.iload_n 1, 1) := by decide +kernel
theorem dX3_waive_1 : decode cX3_waive 1 = .ok (.ifCond .lt 12, 3) := by decide +kernel
theorem dX3_waive_4 : decode cX3_waive 4 = .ok (.iload_n 1, 1) := by decide +kernel
theorem dX3_waive_5 : decode cX3_waive 5 = .ok (.aload_n 0, 1) := by decide +kernel
theorem dX3_waive_6 : decode cX3_waive 6 = .ok (.getfield 15, 3) := by decide +kernel
theorem dX3_waive_9 : decode cX3_waive 9 = .ok (.arraylength, 1) := by decide +kernel
theorem dX3_waive_10 : decode cX3_waive 10 = .ok (.if_icmp .lt 13, 3) := by decide +kernel
theorem dX3_waive_13 : decode cX3_waive 13 = .ok (.new 46, 3) := by decide +kernel
theorem dX3_waive_16 : decode cX3_waive 16 = .ok (.dup, 1) := by decide +kernel
theorem dX3_waive_17 : decode cX3_waive 17 = .ok (.ldc 64, 2) := by decide +kernel
theorem dX3_waive_19 : decode cX3_waive 19 = .ok (.invokespecial 50, 3) := by decide +kernel
theorem dX3_waive_22 : decode cX3_waive 22 = .ok (.athrow, 1) := by decide +kernel
theorem dX3_waive_23 : decode cX3_waive 23 = .ok (.aload_n 0, 1) := by decide +kernel
theorem dX3_waive_24 : decode cX3_waive 24 = .ok (.getfield 15, 3) := by decide +kernel
theorem dX3_waive_27 : decode cX3_waive 27 = .ok (.iload_n 1, 1) := by decide +kernel
theorem dX3_waive_28 : decode cX3_waive 28 = .ok (.baload, 1) := by decide +kernel
theorem dX3_waive_29 : decode cX3_waive 29 = .ok (.istore_n 3, 1) := by decide +kernel
theorem dX3_waive_30 : decode cX3_waive 30 = .ok (.aload_n 0, 1) := by decide +kernel
theorem dX3_waive_31 : decode cX3_waive 31 = .ok (.getfield 15, 3) := by decide +kernel
theorem dX3_waive_34 : decode cX3_waive 34 = .ok (.iload_n 1, 1) := by decide +kernel
theorem dX3_waive_35 : decode cX3_waive 35 = .ok (.iload_n 2, 1) := by decide +kernel
theorem dX3_waive_36 : decode cX3_waive 36 = .ok (.bastore, 1) := by decide +kernel
theorem dX3_waive_37 : decode cX3_waive 37 = .ok (.iload_n 3, 1) := by decide +kernel
theorem dX3_waive_38 : decode cX3_waive 38 = .ok (.ireturn, 1) := by decide +kernel
theorem dX3_file_0 : decode cX3_file 0 = .ok (.iload_n 1, 1) := by decide +kernel
theorem dX3_file_1 : decode cX3_file 1 = .ok (.iconst 4, 1) := by decide +kernel
theorem dX3_file_2 : decode cX3_file 2 = .ok (.invokestatic 66, 3) := by decide +kernel
theorem dX3_file_5 : decode cX3_file 5 = .ok (.ifCond .eq 30, 3) := by decide +kernel
theorem dX3_file_8 : decode cX3_file 8 = .ok (.iload_n 2, 1) := by decide +kernel
theorem dX3_file_9 : decode cX3_file 9 = .ok (.bipush 6, 2) := by decide +kernel
theorem dX3_file_11 : decode cX3_file 11 = .ok (.invokestatic 66, 3) := by decide +kernel
theorem dX3_file_14 : decode cX3_file 14 = .ok (.ifCond .eq 21, 3) := by decide +kernel
theorem dX3_file_17 : decode cX3_file 17 = .ok (.iload_n 3, 1) := by decide +kernel
theorem dX3_file_18 : decode cX3_file 18 = .ok (.bipush 6, 2) := by decide +kernel
theorem dX3_file_20 : decode cX3_file 20 = .ok (.invokestatic 66, 3) := by decide +kernel
theorem dX3_file_23 : decode cX3_file 23 = .ok (.ifCond .eq 12, 3) := by decide +kernel
theorem dX3_file_26 : decode cX3_file 26 = .ok (.iload 4, 2) := by decide +kernel
theorem dX3_file_28 : decode cX3_file 28 = .ok (.iconst 4, 1) := by decide +kernel
theorem dX3_file_29 : decode cX3_file 29 = .ok (.invokestatic 70, 3) := by decide +kernel
theorem dX3_file_32 : decode cX3_file 32 = .ok (.ifCond .ne 13, 3) := by decide +kernel
theorem dX3_file_35 : decode cX3_file 35 = .ok (.new 46, 3) := by decide +kernel
theorem dX3_file_38 : decode cX3_file 38 = .ok (.dup, 1) := by decide +kernel
theorem dX3_file_39 : decode cX3_file 39 = .ok (.ldc 73, 2) := by decide +kernel
theorem dX3_file_41 : decode cX3_file 41 = .ok (.invokespecial 50, 3) := by decide +kernel
theorem dX3_file_44 : decode cX3_file 44 = .ok (.athrow, 1) := by decide +kernel
theorem dX3_file_45 : decode cX3_file 45 = .ok (.iload_n 2, 1) := by decide +kernel
theorem dX3_file_46 : decode cX3_file 46 = .ok (.iload_n 3, 1) := by decide +kernel
theorem dX3_file_47 : decode cX3_file 47 = .ok (.if_icmp .ne 13, 3) := by decide +kernel
theorem dX3_file_50 : decode cX3_file 50 = .ok (.new 53, 3) := by decide +kernel
theorem dX3_file_53 : decode cX3_file 53 = .ok (.dup, 1) := by decide +kernel
theorem dX3_file_54 : decode cX3_file 54 = .ok (.ldc 75, 2) := by decide +kernel
theorem dX3_file_56 : decode cX3_file 56 = .ok (.invokespecial 57, 3) := by decide +kernel
theorem dX3_file_59 : decode cX3_file 59 = .ok (.athrow, 1) := by decide +kernel
theorem dX3_file_60 : decode cX3_file 60 = .ok (.aload_n 0, 1) := by decide +kernel
theorem dX3_file_61 : decode cX3_file 61 = .ok (.getfield 31, 3) := by decide +kernel
theorem dX3_file_64 : decode cX3_file 64 = .ok (.aload_n 0, 1) := by decide +kernel
theorem dX3_file_65 : decode cX3_file 65 = .ok (.getfield 21, 3) := by decide +kernel
theorem dX3_file_68 : decode cX3_file 68 = .ok (.arraylength, 1) := by decide +kernel
theorem dX3_file_69 : decode cX3_file 69 = .ok (.invokestatic 66, 3) := by decide +kernel
theorem dX3_file_72 : decode cX3_file 72 = .ok (.ifCond .ne 13, 3) := by decide +kernel
theorem dX3_file_75 : decode cX3_file 75 = .ok (.new 77, 3) := by decide +kernel
theorem dX3_file_78 : decode cX3_file 78 = .ok (.dup, 1) := by decide +kernel
theorem dX3_file_79 : decode cX3_file 79 = .ok (.ldc 79, 2) := by decide +kernel
theorem dX3_file_81 : decode cX3_file 81 = .ok (.invokespecial 81, 3) := by decide +kernel
theorem dX3_file_84 : decode cX3_file 84 = .ok (.athrow, 1) := by decide +kernel
theorem dX3_file_85 : decode cX3_file 85 = .ok (.new 19, 3) := by decide +kernel
theorem dX3_file_88 : decode cX3_file 88 = .ok (.dup, 1) := by decide +kernel
theorem dX3_file_89 : decode cX3_file 89 = .ok (.aload_n 0, 1) := by decide +kernel
theorem dX3_file_90 : decode cX3_file 90 = .ok (.getfield 31, 3) := by decide +kernel
theorem dX3_file_93 : decode cX3_file 93 = .ok (.iload_n 1, 1) := by decide +kernel
theorem dX3_file_94 : decode cX3_file 94 = .ok (.iload_n 2, 1) := by decide +kernel
theorem dX3_file_95 : decode cX3_file 95 = .ok (.iload_n 3, 1) := by decide +kernel
theorem dX3_file_96 : decode cX3_file 96 = .ok (.iload 4, 2) := by decide +kernel
theorem dX3_file_98 : decode cX3_file 98 = .ok (.aload_n 0, 1) := by decide +kernel
theorem dX3_file_99 : decode cX3_file 99 = .ok (.getfield 38, 3) := by decide +kernel
theorem dX3_file_102 : decode cX3_file 102 = .ok (.bipush 100, 2) := by decide +kernel
theorem dX3_file_104 : decode cX3_file 104 = .ok (.iadd, 1) := by decide +kernel
theorem dX3_file_105 : decode cX3_file 105 = .ok (.invokespecial 82, 3) := by decide +kernel
theorem dX3_file_108 : decode cX3_file 108 = .ok (.astore 5, 2) := by decide +kernel
theorem dX3_file_110 : decode cX3_file 110 = .ok (.aload 5, 2) := by decide +kernel
theorem dX3_file_112 : decode cX3_file 112 = .ok (.dup, 1) := by decide +kernel
theorem dX3_file_113 : decode cX3_file 113 = .ok (.getfield 85, 3) := by decide +kernel
theorem dX3_file_116 : decode cX3_file 116 = .ok (.aload_n 0, 1) := by decide +kernel
theorem dX3_file_117 : decode cX3_file 117 = .ok (.aload 5, 2) := by decide +kernel
theorem dX3_file_119 : decode cX3_file 119 = .ok (.bipush 50, 2) := by decide +kernel
theorem dX3_file_121 : decode cX3_file 121 = .ok (.invokevirtual 88, 3) := by decide +kernel
theorem dX3_file_124 : decode cX3_file 124 = .ok (.isub, 1) := by decide +kernel
theorem dX3_file_125 : decode cX3_file 125 = .ok (.putfield 85, 3) := by decide +kernel
theorem dX3_file_128 : decode cX3_file 128 = .ok (.aload_n 0, 1) := by decide +kernel
theorem dX3_file_129 : decode cX3_file 129 = .ok (.getfield 21, 3) := by decide +kernel
theorem dX3_file_132 : decode cX3_file 132 = .ok (.aload_n 0, 1) := by decide +kernel
theorem dX3_file_133 : decode cX3_file 133 = .ok (.getfield 31, 3) := by decide +kernel
theorem dX3_file_136 : decode cX3_file 136 = .ok (.aload 5, 2) := by decide +kernel
theorem dX3_file_138 : decode cX3_file 138 = .ok (.aastore, 1) := by decide +kernel
theorem dX3_file_139 : decode cX3_file 139 = .ok (.aload_n 0, 1) := by decide +kernel
theorem dX3_file_140 : decode cX3_file 140 = .ok (.dup, 1) := by decide +kernel
theorem dX3_file_141 : decode cX3_file 141 = .ok (.getfield 31, 3) := by decide +kernel
theorem dX3_file_144 : decode cX3_file 144 = .ok (.iconst 1, 1) := by decide +kernel
theorem dX3_file_145 : decode cX3_file 145 = .ok (.iadd, 1) := by decide +kernel
theorem dX3_file_146 : decode cX3_file 146 = .ok (.putfield 31, 3) := by decide +kernel
theorem dX3_file_149 : decode cX3_file 149 = .ok (.aload 5, 2) := by decide +kernel
theorem dX3_file_151 : decode cX3_file 151 = .ok (.getfield 92, 3) := by decide +kernel
theorem dX3_file_154 : decode cX3_file 154 = .ok (.ireturn, 1) := by decide +kernel
theorem dX3_pay_0 : decode cX3_pay 0 = .ok (.aload_n 0, 1) := by decide +kernel
theorem dX3_pay_1 : decode cX3_pay 1 = .ok (.iload_n 1, 1) := by decide +kernel
theorem dX3_pay_2 : decode cX3_pay 2 = .ok (.invokevirtual 95, 3) := by decide +kernel
theorem dX3_pay_5 : decode cX3_pay 5 = .ok (.astore_n 3, 1) := by decide +kernel
theorem dX3_pay_6 : decode cX3_pay 6 = .ok (.aload_n 3, 1) := by decide +kernel
theorem dX3_pay_7 : decode cX3_pay 7 = .ok (.ifnonnull 13, 3) := by decide +kernel
theorem dX3_pay_10 : decode cX3_pay 10 = .ok (.new 46, 3) := by decide +kernel
theorem dX3_pay_13 : decode cX3_pay 13 = .ok (.dup, 1) := by decide +kernel
theorem dX3_pay_14 : decode cX3_pay 14 = .ok (.ldc 99, 2) := by decide +kernel
theorem dX3_pay_16 : decode cX3_pay 16 = .ok (.invokespecial 50, 3) := by decide +kernel
theorem dX3_pay_19 : decode cX3_pay 19 = .ok (.athrow, 1) := by decide +kernel
theorem dX3_pay_20 : decode cX3_pay 20 = .ok (.iload_n 2, 1) := by decide +kernel
theorem dX3_pay_21 : decode cX3_pay 21 = .ok (.iconst 1, 1) := by decide +kernel
theorem dX3_pay_22 : decode cX3_pay 22 = .ok (.if_icmp .lt 10, 3) := by decide +kernel
theorem dX3_pay_25 : decode cX3_pay 25 = .ok (.iload_n 2, 1) := by decide +kernel
theorem dX3_pay_26 : decode cX3_pay 26 = .ok (.sipush 9999, 3) := by decide +kernel
theorem dX3_pay_29 : decode cX3_pay 29 = .ok (.if_icmp .le 13, 3) := by decide +kernel
theorem dX3_pay_32 : decode cX3_pay 32 = .ok (.new 53, 3) := by decide +kernel
theorem dX3_pay_35 : decode cX3_pay 35 = .ok (.dup, 1) := by decide +kernel
theorem dX3_pay_36 : decode cX3_pay 36 = .ok (.ldc 101, 2) := by decide +kernel
theorem dX3_pay_38 : decode cX3_pay 38 = .ok (.invokespecial 57, 3) := by decide +kernel
theorem dX3_pay_41 : decode cX3_pay 41 = .ok (.athrow, 1) := by decide +kernel
theorem dX3_pay_42 : decode cX3_pay 42 = .ok (.aload_n 3, 1) := by decide +kernel
theorem dX3_pay_43 : decode cX3_pay 43 = .ok (.dup, 1) := by decide +kernel
theorem dX3_pay_44 : decode cX3_pay 44 = .ok (.getfield 85, 3) := by decide +kernel
theorem dX3_pay_47 : decode cX3_pay 47 = .ok (.iload_n 2, 1) := by decide +kernel
theorem dX3_pay_48 : decode cX3_pay 48 = .ok (.iadd, 1) := by decide +kernel
theorem dX3_pay_49 : decode cX3_pay 49 = .ok (.putfield 85, 3) := by decide +kernel
theorem dX3_pay_52 : decode cX3_pay 52 = .ok (.aload_n 3, 1) := by decide +kernel
theorem dX3_pay_53 : decode cX3_pay 53 = .ok (.getfield 85, 3) := by decide +kernel
theorem dX3_pay_56 : decode cX3_pay 56 = .ok (.ireturn, 1) := by decide +kernel
theorem dX3_decide_0 : decode cX3_decide 0 = .ok (.aload_n 0, 1) := by decide +kernel
theorem dX3_decide_1 : decode cX3_decide 1 = .ok (.iload_n 1, 1) := by decide +kernel
theorem dX3_decide_2 : decode cX3_decide 2 = .ok (.invokevirtual 95, 3) := by decide +kernel
theorem dX3_decide_5 : decode cX3_decide 5 = .ok (.astore_n 2, 1) := by decide +kernel
theorem dX3_decide_6 : decode cX3_decide 6 = .ok (.aload_n 2, 1) := by decide +kernel
theorem dX3_decide_7 : decode cX3_decide 7 = .ok (.ifnonnull 13, 3) := by decide +kernel
theorem dX3_decide_10 : decode cX3_decide 10 = .ok (.new 46, 3) := by decide +kernel
theorem dX3_decide_13 : decode cX3_decide 13 = .ok (.dup, 1) := by decide +kernel
theorem dX3_decide_14 : decode cX3_decide 14 = .ok (.ldc 99, 2) := by decide +kernel
theorem dX3_decide_16 : decode cX3_decide 16 = .ok (.invokespecial 50, 3) := by decide +kernel
theorem dX3_decide_19 : decode cX3_decide 19 = .ok (.athrow, 1) := by decide +kernel
theorem dX3_decide_20 : decode cX3_decide 20 = .ok (.aload_n 2, 1) := by decide +kernel
theorem dX3_decide_21 : decode cX3_decide 21 = .ok (.getfield 103, 3) := by decide +kernel
theorem dX3_decide_24 : decode cX3_decide 24 = .ok (.iconst 1, 1) := by decide +kernel
theorem dX3_decide_25 : decode cX3_decide 25 = .ok (.if_icmp .eq 13, 3) := by decide +kernel
theorem dX3_decide_28 : decode cX3_decide 28 = .ok (.new 77, 3) := by decide +kernel
theorem dX3_decide_31 : decode cX3_decide 31 = .ok (.dup, 1) := by decide +kernel
theorem dX3_decide_32 : decode cX3_decide 32 = .ok (.ldc 106, 2) := by decide +kernel
theorem dX3_decide_34 : decode cX3_decide 34 = .ok (.invokespecial 81, 3) := by decide +kernel
theorem dX3_decide_37 : decode cX3_decide 37 = .ok (.athrow, 1) := by decide +kernel
theorem dX3_decide_38 : decode cX3_decide 38 = .ok (.aload_n 2, 1) := by decide +kernel
theorem dX3_decide_39 : decode cX3_decide 39 = .ok (.iconst 2, 1) := by decide +kernel
theorem dX3_decide_40 : decode cX3_decide 40 = .ok (.putfield 103, 3) := by decide +kernel
theorem dX3_decide_43 : decode cX3_decide 43 = .ok (.aload_n 0, 1) := by decide +kernel
theorem dX3_decide_44 : decode cX3_decide 44 = .ok (.aload_n 2, 1) := by decide +kernel
theorem dX3_decide_45 : decode cX3_decide 45 = .ok (.invokevirtual 108, 3) := by decide +kernel
theorem dX3_decide_48 : decode cX3_decide 48 = .ok (.ireturn, 1) := by decide +kernel
theorem dX3_appeal_0 : decode cX3_appeal 0 = .ok (.aload_n 0, 1) := by decide +kernel
theorem dX3_appeal_1 : decode cX3_appeal 1 = .ok (.iload_n 1, 1) := by decide +kernel
theorem dX3_appeal_2 : decode cX3_appeal 2 = .ok (.invokevirtual 95, 3) := by decide +kernel
theorem dX3_appeal_5 : decode cX3_appeal 5 = .ok (.astore_n 2, 1) := by decide +kernel
theorem dX3_appeal_6 : decode cX3_appeal 6 = .ok (.aload_n 2, 1) := by decide +kernel
theorem dX3_appeal_7 : decode cX3_appeal 7 = .ok (.ifnonnull 13, 3) := by decide +kernel
theorem dX3_appeal_10 : decode cX3_appeal 10 = .ok (.new 46, 3) := by decide +kernel
theorem dX3_appeal_13 : decode cX3_appeal 13 = .ok (.dup, 1) := by decide +kernel
theorem dX3_appeal_14 : decode cX3_appeal 14 = .ok (.ldc 99, 2) := by decide +kernel
theorem dX3_appeal_16 : decode cX3_appeal 16 = .ok (.invokespecial 50, 3) := by decide +kernel
theorem dX3_appeal_19 : decode cX3_appeal 19 = .ok (.athrow, 1) := by decide +kernel
theorem dX3_appeal_20 : decode cX3_appeal 20 = .ok (.aload_n 2, 1) := by decide +kernel
theorem dX3_appeal_21 : decode cX3_appeal 21 = .ok (.getfield 103, 3) := by decide +kernel
theorem dX3_appeal_24 : decode cX3_appeal 24 = .ok (.iconst 2, 1) := by decide +kernel
theorem dX3_appeal_25 : decode cX3_appeal 25 = .ok (.if_icmp .ne 10, 3) := by decide +kernel
theorem dX3_appeal_28 : decode cX3_appeal 28 = .ok (.aload_n 2, 1) := by decide +kernel
theorem dX3_appeal_29 : decode cX3_appeal 29 = .ok (.getfield 85, 3) := by decide +kernel
theorem dX3_appeal_32 : decode cX3_appeal 32 = .ok (.ifCond .ge 13, 3) := by decide +kernel
theorem dX3_appeal_35 : decode cX3_appeal 35 = .ok (.new 77, 3) := by decide +kernel
theorem dX3_appeal_38 : decode cX3_appeal 38 = .ok (.dup, 1) := by decide +kernel
theorem dX3_appeal_39 : decode cX3_appeal 39 = .ok (.ldc 112, 2) := by decide +kernel
theorem dX3_appeal_41 : decode cX3_appeal 41 = .ok (.invokespecial 81, 3) := by decide +kernel
theorem dX3_appeal_44 : decode cX3_appeal 44 = .ok (.athrow, 1) := by decide +kernel
theorem dX3_appeal_45 : decode cX3_appeal 45 = .ok (.aload_n 2, 1) := by decide +kernel
theorem dX3_appeal_46 : decode cX3_appeal 46 = .ok (.iconst 3, 1) := by decide +kernel
theorem dX3_appeal_47 : decode cX3_appeal 47 = .ok (.putfield 103, 3) := by decide +kernel
theorem dX3_appeal_50 : decode cX3_appeal 50 = .ok (.aload_n 2, 1) := by decide +kernel
theorem dX3_appeal_51 : decode cX3_appeal 51 = .ok (.dup, 1) := by decide +kernel
theorem dX3_appeal_52 : decode cX3_appeal 52 = .ok (.getfield 85, 3) := by decide +kernel
theorem dX3_appeal_55 : decode cX3_appeal 55 = .ok (.aload_n 0, 1) := by decide +kernel
theorem dX3_appeal_56 : decode cX3_appeal 56 = .ok (.aload_n 2, 1) := by decide +kernel
theorem dX3_appeal_57 : decode cX3_appeal 57 = .ok (.bipush 80, 2) := by decide +kernel
theorem dX3_appeal_59 : decode cX3_appeal 59 = .ok (.invokevirtual 88, 3) := by decide +kernel
theorem dX3_appeal_62 : decode cX3_appeal 62 = .ok (.isub, 1) := by decide +kernel
theorem dX3_appeal_63 : decode cX3_appeal 63 = .ok (.putfield 85, 3) := by decide +kernel
theorem dX3_appeal_66 : decode cX3_appeal 66 = .ok (.aload_n 2, 1) := by decide +kernel
theorem dX3_appeal_67 : decode cX3_appeal 67 = .ok (.getfield 85, 3) := by decide +kernel
theorem dX3_appeal_70 : decode cX3_appeal 70 = .ok (.ireturn, 1) := by decide +kernel
theorem dX3_settle_0 : decode cX3_settle 0 = .ok (.aload_n 0, 1) := by decide +kernel
theorem dX3_settle_1 : decode cX3_settle 1 = .ok (.iload_n 1, 1) := by decide +kernel
theorem dX3_settle_2 : decode cX3_settle 2 = .ok (.invokevirtual 95, 3) := by decide +kernel
theorem dX3_settle_5 : decode cX3_settle 5 = .ok (.astore_n 3, 1) := by decide +kernel
theorem dX3_settle_6 : decode cX3_settle 6 = .ok (.aload_n 3, 1) := by decide +kernel
theorem dX3_settle_7 : decode cX3_settle 7 = .ok (.ifnonnull 13, 3) := by decide +kernel
theorem dX3_settle_10 : decode cX3_settle 10 = .ok (.new 46, 3) := by decide +kernel
theorem dX3_settle_13 : decode cX3_settle 13 = .ok (.dup, 1) := by decide +kernel
theorem dX3_settle_14 : decode cX3_settle 14 = .ok (.ldc 99, 2) := by decide +kernel
theorem dX3_settle_16 : decode cX3_settle 16 = .ok (.invokespecial 50, 3) := by decide +kernel
theorem dX3_settle_19 : decode cX3_settle 19 = .ok (.athrow, 1) := by decide +kernel
theorem dX3_settle_20 : decode cX3_settle 20 = .ok (.aload_n 3, 1) := by decide +kernel
theorem dX3_settle_21 : decode cX3_settle 21 = .ok (.getfield 103, 3) := by decide +kernel
theorem dX3_settle_24 : decode cX3_settle 24 = .ok (.iconst 3, 1) := by decide +kernel
theorem dX3_settle_25 : decode cX3_settle 25 = .ok (.if_icmp .eq 13, 3) := by decide +kernel
theorem dX3_settle_28 : decode cX3_settle 28 = .ok (.new 77, 3) := by decide +kernel
theorem dX3_settle_31 : decode cX3_settle 31 = .ok (.dup, 1) := by decide +kernel
theorem dX3_settle_32 : decode cX3_settle 32 = .ok (.ldc 114, 2) := by decide +kernel
theorem dX3_settle_34 : decode cX3_settle 34 = .ok (.invokespecial 81, 3) := by decide +kernel
theorem dX3_settle_37 : decode cX3_settle 37 = .ok (.athrow, 1) := by decide +kernel
theorem dX3_settle_38 : decode cX3_settle 38 = .ok (.aload_n 3, 1) := by decide +kernel
theorem dX3_settle_39 : decode cX3_settle 39 = .ok (.iload_n 2, 1) := by decide +kernel
theorem dX3_settle_40 : decode cX3_settle 40 = .ok (.ifCond .eq 7, 3) := by decide +kernel
theorem dX3_settle_43 : decode cX3_settle 43 = .ok (.iconst 0, 1) := by decide +kernel
theorem dX3_settle_44 : decode cX3_settle 44 = .ok (.goto 4, 3) := by decide +kernel
theorem dX3_settle_47 : decode cX3_settle 47 = .ok (.iconst 2, 1) := by decide +kernel
theorem dX3_settle_48 : decode cX3_settle 48 = .ok (.putfield 103, 3) := by decide +kernel
theorem dX3_settle_51 : decode cX3_settle 51 = .ok (.aload_n 3, 1) := by decide +kernel
theorem dX3_settle_52 : decode cX3_settle 52 = .ok (.getfield 116, 3) := by decide +kernel
theorem dX3_settle_55 : decode cX3_settle 55 = .ok (.ireturn, 1) := by decide +kernel
theorem dX3_close_0 : decode cX3_close 0 = .ok (.aload_n 0, 1) := by decide +kernel
theorem dX3_close_1 : decode cX3_close 1 = .ok (.iload_n 1, 1) := by decide +kernel
theorem dX3_close_2 : decode cX3_close 2 = .ok (.invokevirtual 95, 3) := by decide +kernel
theorem dX3_close_5 : decode cX3_close 5 = .ok (.astore_n 2, 1) := by decide +kernel
theorem dX3_close_6 : decode cX3_close 6 = .ok (.aload_n 2, 1) := by decide +kernel
theorem dX3_close_7 : decode cX3_close 7 = .ok (.ifnonnull 13, 3) := by decide +kernel
theorem dX3_close_10 : decode cX3_close 10 = .ok (.new 46, 3) := by decide +kernel
theorem dX3_close_13 : decode cX3_close 13 = .ok (.dup, 1) := by decide +kernel
theorem dX3_close_14 : decode cX3_close 14 = .ok (.ldc 99, 2) := by decide +kernel
theorem dX3_close_16 : decode cX3_close 16 = .ok (.invokespecial 50, 3) := by decide +kernel
theorem dX3_close_19 : decode cX3_close 19 = .ok (.athrow, 1) := by decide +kernel
theorem dX3_close_20 : decode cX3_close 20 = .ok (.aload_n 2, 1) := by decide +kernel
theorem dX3_close_21 : decode cX3_close 21 = .ok (.getfield 103, 3) := by decide +kernel
theorem dX3_close_24 : decode cX3_close 24 = .ok (.iconst 2, 1) := by decide +kernel
theorem dX3_close_25 : decode cX3_close 25 = .ok (.if_icmp .eq 13, 3) := by decide +kernel
theorem dX3_close_28 : decode cX3_close 28 = .ok (.new 77, 3) := by decide +kernel
theorem dX3_close_31 : decode cX3_close 31 = .ok (.dup, 1) := by decide +kernel
theorem dX3_close_32 : decode cX3_close 32 = .ok (.ldc 119, 2) := by decide +kernel
theorem dX3_close_34 : decode cX3_close 34 = .ok (.invokespecial 81, 3) := by decide +kernel
theorem dX3_close_37 : decode cX3_close 37 = .ok (.athrow, 1) := by decide +kernel
theorem dX3_close_38 : decode cX3_close 38 = .ok (.aload_n 2, 1) := by decide +kernel
theorem dX3_close_39 : decode cX3_close 39 = .ok (.iconst 4, 1) := by decide +kernel
theorem dX3_close_40 : decode cX3_close 40 = .ok (.putfield 103, 3) := by decide +kernel
theorem dX3_close_43 : decode cX3_close 43 = .ok (.aload_n 2, 1) := by decide +kernel
theorem dX3_close_44 : decode cX3_close 44 = .ok (.getfield 85, 3) := by decide +kernel
theorem dX3_close_47 : decode cX3_close 47 = .ok (.ireturn, 1) := by decide +kernel
theorem dX3_plan_0 : decode cX3_plan 0 = .ok (.aload_n 0, 1) := by decide +kernel
theorem dX3_plan_1 : decode cX3_plan 1 = .ok (.iload_n 1, 1) := by decide +kernel
theorem dX3_plan_2 : decode cX3_plan 2 = .ok (.invokevirtual 95, 3) := by decide +kernel
theorem dX3_plan_5 : decode cX3_plan 5 = .ok (.astore 6, 2) := by decide +kernel
theorem dX3_plan_7 : decode cX3_plan 7 = .ok (.aload 6, 2) := by decide +kernel
theorem dX3_plan_9 : decode cX3_plan 9 = .ok (.ifnull 19, 3) := by decide +kernel
theorem dX3_plan_12 : decode cX3_plan 12 = .ok (.iload_n 2, 1) := by decide +kernel
theorem dX3_plan_13 : decode cX3_plan 13 = .ok (.iconst 4, 1) := by decide +kernel
theorem dX3_plan_14 : decode cX3_plan 14 = .ok (.invokestatic 66, 3) := by decide +kernel
theorem dX3_plan_17 : decode cX3_plan 17 = .ok (.ifCond .eq 11, 3) := by decide +kernel
theorem dX3_plan_20 : decode cX3_plan 20 = .ok (.iload_n 3, 1) := by decide +kernel
theorem dX3_plan_21 : decode cX3_plan 21 = .ok (.iconst 4, 1) := by decide +kernel
theorem dX3_plan_22 : decode cX3_plan 22 = .ok (.invokestatic 70, 3) := by decide +kernel
theorem dX3_plan_25 : decode cX3_plan 25 = .ok (.ifCond .ne 13, 3) := by decide +kernel
theorem dX3_plan_28 : decode cX3_plan 28 = .ok (.new 46, 3) := by decide +kernel
theorem dX3_plan_31 : decode cX3_plan 31 = .ok (.dup, 1) := by decide +kernel
theorem dX3_plan_32 : decode cX3_plan 32 = .ok (.ldc 121, 2) := by decide +kernel
theorem dX3_plan_34 : decode cX3_plan 34 = .ok (.invokespecial 50, 3) := by decide +kernel
theorem dX3_plan_37 : decode cX3_plan 37 = .ok (.athrow, 1) := by decide +kernel
theorem dX3_plan_38 : decode cX3_plan 38 = .ok (.iload 4, 2) := by decide +kernel
theorem dX3_plan_40 : decode cX3_plan 40 = .ok (.aload_n 0, 1) := by decide +kernel
theorem dX3_plan_41 : decode cX3_plan 41 = .ok (.getfield 38, 3) := by decide +kernel
theorem dX3_plan_44 : decode cX3_plan 44 = .ok (.if_icmp .le 23, 3) := by decide +kernel
theorem dX3_plan_47 : decode cX3_plan 47 = .ok (.iload 4, 2) := by decide +kernel
theorem dX3_plan_49 : decode cX3_plan 49 = .ok (.sipush 999, 3) := by decide +kernel
theorem dX3_plan_52 : decode cX3_plan 52 = .ok (.if_icmp .gt 15, 3) := by decide +kernel
theorem dX3_plan_55 : decode cX3_plan 55 = .ok (.iload 5, 2) := by decide +kernel
theorem dX3_plan_57 : decode cX3_plan 57 = .ok (.iconst 1, 1) := by decide +kernel
theorem dX3_plan_58 : decode cX3_plan 58 = .ok (.if_icmp .lt 9, 3) := by decide +kernel
theorem dX3_plan_61 : decode cX3_plan 61 = .ok (.iload 5, 2) := by decide +kernel
theorem dX3_plan_63 : decode cX3_plan 63 = .ok (.iconst 4, 1) := by decide +kernel
theorem dX3_plan_64 : decode cX3_plan 64 = .ok (.if_icmp .le 13, 3) := by decide +kernel
theorem dX3_plan_67 : decode cX3_plan 67 = .ok (.new 53, 3) := by decide +kernel
theorem dX3_plan_70 : decode cX3_plan 70 = .ok (.dup, 1) := by decide +kernel
theorem dX3_plan_71 : decode cX3_plan 71 = .ok (.ldc 123, 2) := by decide +kernel
theorem dX3_plan_73 : decode cX3_plan 73 = .ok (.invokespecial 57, 3) := by decide +kernel
theorem dX3_plan_76 : decode cX3_plan 76 = .ok (.athrow, 1) := by decide +kernel
theorem dX3_plan_77 : decode cX3_plan 77 = .ok (.aload 6, 2) := by decide +kernel
theorem dX3_plan_79 : decode cX3_plan 79 = .ok (.invokevirtual 125, 3) := by decide +kernel
theorem dX3_plan_82 : decode cX3_plan 82 = .ok (.ifCond .eq 28, 3) := by decide +kernel
theorem dX3_plan_85 : decode cX3_plan 85 = .ok (.aload_n 0, 1) := by decide +kernel
theorem dX3_plan_86 : decode cX3_plan 86 = .ok (.aload 6, 2) := by decide +kernel
theorem dX3_plan_88 : decode cX3_plan 88 = .ok (.iload_n 3, 1) := by decide +kernel
theorem dX3_plan_89 : decode cX3_plan 89 = .ok (.invokevirtual 129, 3) := by decide +kernel
theorem dX3_plan_92 : decode cX3_plan 92 = .ok (.ifCond .eq 18, 3) := by decide +kernel
theorem dX3_plan_95 : decode cX3_plan 95 = .ok (.aload_n 0, 1) := by decide +kernel
theorem dX3_plan_96 : decode cX3_plan 96 = .ok (.getfield 35, 3) := by decide +kernel
theorem dX3_plan_99 : decode cX3_plan 99 = .ok (.aload_n 0, 1) := by decide +kernel
theorem dX3_plan_100 : decode cX3_plan 100 = .ok (.getfield 27, 3) := by decide +kernel
theorem dX3_plan_103 : decode cX3_plan 103 = .ok (.arraylength, 1) := by decide +kernel
theorem dX3_plan_104 : decode cX3_plan 104 = .ok (.invokestatic 66, 3) := by decide +kernel
theorem dX3_plan_107 : decode cX3_plan 107 = .ok (.ifCond .ne 13, 3) := by decide +kernel
theorem dX3_plan_110 : decode cX3_plan 110 = .ok (.new 77, 3) := by decide +kernel
theorem dX3_plan_113 : decode cX3_plan 113 = .ok (.dup, 1) := by decide +kernel
theorem dX3_plan_114 : decode cX3_plan 114 = .ok (.ldc 133, 2) := by decide +kernel
theorem dX3_plan_116 : decode cX3_plan 116 = .ok (.invokespecial 81, 3) := by decide +kernel
theorem dX3_plan_119 : decode cX3_plan 119 = .ok (.athrow, 1) := by decide +kernel
theorem dX3_plan_120 : decode cX3_plan 120 = .ok (.aload_n 0, 1) := by decide +kernel
theorem dX3_plan_121 : decode cX3_plan 121 = .ok (.aconst_null, 1) := by decide +kernel
theorem dX3_plan_122 : decode cX3_plan 122 = .ok (.aload 6, 2) := by decide +kernel
theorem dX3_plan_124 : decode cX3_plan 124 = .ok (.iload_n 2, 1) := by decide +kernel
theorem dX3_plan_125 : decode cX3_plan 125 = .ok (.iload_n 3, 1) := by decide +kernel
theorem dX3_plan_126 : decode cX3_plan 126 = .ok (.iload 4, 2) := by decide +kernel
theorem dX3_plan_128 : decode cX3_plan 128 = .ok (.iload 5, 2) := by decide +kernel
theorem dX3_plan_130 : decode cX3_plan 130 = .ok (.invokevirtual 135, 3) := by decide +kernel
theorem dX3_plan_133 : decode cX3_plan 133 = .ok (.ifCond .eq 13, 3) := by decide +kernel
theorem dX3_plan_136 : decode cX3_plan 136 = .ok (.new 77, 3) := by decide +kernel
theorem dX3_plan_139 : decode cX3_plan 139 = .ok (.dup, 1) := by decide +kernel
theorem dX3_plan_140 : decode cX3_plan 140 = .ok (.ldc 139, 2) := by decide +kernel
theorem dX3_plan_142 : decode cX3_plan 142 = .ok (.invokespecial 81, 3) := by decide +kernel
theorem dX3_plan_145 : decode cX3_plan 145 = .ok (.athrow, 1) := by decide +kernel
theorem dX3_plan_146 : decode cX3_plan 146 = .ok (.new 25, 3) := by decide +kernel
theorem dX3_plan_149 : decode cX3_plan 149 = .ok (.dup, 1) := by decide +kernel
theorem dX3_plan_150 : decode cX3_plan 150 = .ok (.aload_n 0, 1) := by decide +kernel
theorem dX3_plan_151 : decode cX3_plan 151 = .ok (.getfield 35, 3) := by decide +kernel
theorem dX3_plan_154 : decode cX3_plan 154 = .ok (.aload 6, 2) := by decide +kernel
theorem dX3_plan_156 : decode cX3_plan 156 = .ok (.iload 5, 2) := by decide +kernel
theorem dX3_plan_158 : decode cX3_plan 158 = .ok (.invokespecial 141, 3) := by decide +kernel
theorem dX3_plan_161 : decode cX3_plan 161 = .ok (.astore 7, 2) := by decide +kernel
theorem dX3_plan_163 : decode cX3_plan 163 = .ok (.aload_n 0, 1) := by decide +kernel
theorem dX3_plan_164 : decode cX3_plan 164 = .ok (.getfield 27, 3) := by decide +kernel
theorem dX3_plan_167 : decode cX3_plan 167 = .ok (.aload_n 0, 1) := by decide +kernel
theorem dX3_plan_168 : decode cX3_plan 168 = .ok (.getfield 35, 3) := by decide +kernel
theorem dX3_plan_171 : decode cX3_plan 171 = .ok (.aload 7, 2) := by decide +kernel
theorem dX3_plan_173 : decode cX3_plan 173 = .ok (.aastore, 1) := by decide +kernel
theorem dX3_plan_174 : decode cX3_plan 174 = .ok (.aload_n 0, 1) := by decide +kernel
theorem dX3_plan_175 : decode cX3_plan 175 = .ok (.dup, 1) := by decide +kernel
theorem dX3_plan_176 : decode cX3_plan 176 = .ok (.getfield 35, 3) := by decide +kernel
theorem dX3_plan_179 : decode cX3_plan 179 = .ok (.iconst 1, 1) := by decide +kernel
theorem dX3_plan_180 : decode cX3_plan 180 = .ok (.iadd, 1) := by decide +kernel
theorem dX3_plan_181 : decode cX3_plan 181 = .ok (.putfield 35, 3) := by decide +kernel
theorem dX3_plan_184 : decode cX3_plan 184 = .ok (.aload_n 0, 1) := by decide +kernel
theorem dX3_plan_185 : decode cX3_plan 185 = .ok (.aload 7, 2) := by decide +kernel
theorem dX3_plan_187 : decode cX3_plan 187 = .ok (.iload_n 2, 1) := by decide +kernel
theorem dX3_plan_188 : decode cX3_plan 188 = .ok (.iload_n 3, 1) := by decide +kernel
theorem dX3_plan_189 : decode cX3_plan 189 = .ok (.iload 4, 2) := by decide +kernel
theorem dX3_plan_191 : decode cX3_plan 191 = .ok (.invokevirtual 144, 3) := by decide +kernel
theorem dX3_plan_194 : decode cX3_plan 194 = .ok (.aload 7, 2) := by decide +kernel
theorem dX3_plan_196 : decode cX3_plan 196 = .ok (.getfield 148, 3) := by decide +kernel
theorem dX3_plan_199 : decode cX3_plan 199 = .ok (.ireturn, 1) := by decide +kernel
theorem dX3_move_0 : decode cX3_move 0 = .ok (.aload_n 0, 1) := by decide +kernel
theorem dX3_move_1 : decode cX3_move 1 = .ok (.iload_n 1, 1) := by decide +kernel
theorem dX3_move_2 : decode cX3_move 2 = .ok (.invokevirtual 149, 3) := by decide +kernel
theorem dX3_move_5 : decode cX3_move 5 = .ok (.astore 5, 2) := by decide +kernel
theorem dX3_move_7 : decode cX3_move 7 = .ok (.aload 5, 2) := by decide +kernel
theorem dX3_move_9 : decode cX3_move 9 = .ok (.ifnull 19, 3) := by decide +kernel
theorem dX3_move_12 : decode cX3_move 12 = .ok (.iload_n 2, 1) := by decide +kernel
theorem dX3_move_13 : decode cX3_move 13 = .ok (.iconst 4, 1) := by decide +kernel
theorem dX3_move_14 : decode cX3_move 14 = .ok (.invokestatic 66, 3) := by decide +kernel
theorem dX3_move_17 : decode cX3_move 17 = .ok (.ifCond .eq 11, 3) := by decide +kernel
theorem dX3_move_20 : decode cX3_move 20 = .ok (.iload_n 3, 1) := by decide +kernel
theorem dX3_move_21 : decode cX3_move 21 = .ok (.iconst 4, 1) := by decide +kernel
theorem dX3_move_22 : decode cX3_move 22 = .ok (.invokestatic 70, 3) := by decide +kernel
theorem dX3_move_25 : decode cX3_move 25 = .ok (.ifCond .ne 13, 3) := by decide +kernel
theorem dX3_move_28 : decode cX3_move 28 = .ok (.new 46, 3) := by decide +kernel
theorem dX3_move_31 : decode cX3_move 31 = .ok (.dup, 1) := by decide +kernel
theorem dX3_move_32 : decode cX3_move 32 = .ok (.ldc 153, 2) := by decide +kernel
theorem dX3_move_34 : decode cX3_move 34 = .ok (.invokespecial 50, 3) := by decide +kernel
theorem dX3_move_37 : decode cX3_move 37 = .ok (.athrow, 1) := by decide +kernel
theorem dX3_move_38 : decode cX3_move 38 = .ok (.iload 4, 2) := by decide +kernel
theorem dX3_move_40 : decode cX3_move 40 = .ok (.aload_n 0, 1) := by decide +kernel
theorem dX3_move_41 : decode cX3_move 41 = .ok (.getfield 38, 3) := by decide +kernel
theorem dX3_move_44 : decode cX3_move 44 = .ok (.if_icmp .le 11, 3) := by decide +kernel
theorem dX3_move_47 : decode cX3_move 47 = .ok (.iload 4, 2) := by decide +kernel
theorem dX3_move_49 : decode cX3_move 49 = .ok (.sipush 999, 3) := by decide +kernel
theorem dX3_move_52 : decode cX3_move 52 = .ok (.if_icmp .le 13, 3) := by decide +kernel
theorem dX3_move_55 : decode cX3_move 55 = .ok (.new 53, 3) := by decide +kernel
theorem dX3_move_58 : decode cX3_move 58 = .ok (.dup, 1) := by decide +kernel
theorem dX3_move_59 : decode cX3_move 59 = .ok (.ldc 155, 2) := by decide +kernel
theorem dX3_move_61 : decode cX3_move 61 = .ok (.invokespecial 57, 3) := by decide +kernel
theorem dX3_move_64 : decode cX3_move 64 = .ok (.athrow, 1) := by decide +kernel
theorem dX3_move_65 : decode cX3_move 65 = .ok (.aload_n 0, 1) := by decide +kernel
theorem dX3_move_66 : decode cX3_move 66 = .ok (.aload 5, 2) := by decide +kernel
theorem dX3_move_68 : decode cX3_move 68 = .ok (.invokevirtual 157, 3) := by decide +kernel
theorem dX3_move_71 : decode cX3_move 71 = .ok (.ifCond .eq 16, 3) := by decide +kernel
theorem dX3_move_74 : decode cX3_move 74 = .ok (.aload_n 0, 1) := by decide +kernel
theorem dX3_move_75 : decode cX3_move 75 = .ok (.aload 5, 2) := by decide +kernel
theorem dX3_move_77 : decode cX3_move 77 = .ok (.getfield 161, 3) := by decide +kernel
theorem dX3_move_80 : decode cX3_move 80 = .ok (.iload_n 3, 1) := by decide +kernel
theorem dX3_move_81 : decode cX3_move 81 = .ok (.invokevirtual 129, 3) := by decide +kernel
theorem dX3_move_84 : decode cX3_move 84 = .ok (.ifCond .ne 13, 3) := by decide +kernel
theorem dX3_move_87 : decode cX3_move 87 = .ok (.new 77, 3) := by decide +kernel
theorem dX3_move_90 : decode cX3_move 90 = .ok (.dup, 1) := by decide +kernel
theorem dX3_move_91 : decode cX3_move 91 = .ok (.ldc 165, 2) := by decide +kernel
theorem dX3_move_93 : decode cX3_move 93 = .ok (.invokespecial 81, 3) := by decide +kernel
theorem dX3_move_96 : decode cX3_move 96 = .ok (.athrow, 1) := by decide +kernel
theorem dX3_move_97 : decode cX3_move 97 = .ok (.aload_n 0, 1) := by decide +kernel
theorem dX3_move_98 : decode cX3_move 98 = .ok (.aload 5, 2) := by decide +kernel
theorem dX3_move_100 : decode cX3_move 100 = .ok (.aload 5, 2) := by decide +kernel
theorem dX3_move_102 : decode cX3_move 102 = .ok (.getfield 161, 3) := by decide +kernel
theorem dX3_move_105 : decode cX3_move 105 = .ok (.iload_n 2, 1) := by decide +kernel
theorem dX3_move_106 : decode cX3_move 106 = .ok (.iload_n 3, 1) := by decide +kernel
theorem dX3_move_107 : decode cX3_move 107 = .ok (.iload 4, 2) := by decide +kernel
theorem dX3_move_109 : decode cX3_move 109 = .ok (.aload 5, 2) := by decide +kernel
theorem dX3_move_111 : decode cX3_move 111 = .ok (.getfield 167, 3) := by decide +kernel
theorem dX3_move_114 : decode cX3_move 114 = .ok (.invokevirtual 135, 3) := by decide +kernel
theorem dX3_move_117 : decode cX3_move 117 = .ok (.ifCond .eq 13, 3) := by decide +kernel
theorem dX3_move_120 : decode cX3_move 120 = .ok (.new 77, 3) := by decide +kernel
theorem dX3_move_123 : decode cX3_move 123 = .ok (.dup, 1) := by decide +kernel
theorem dX3_move_124 : decode cX3_move 124 = .ok (.ldc 139, 2) := by decide +kernel
theorem dX3_move_126 : decode cX3_move 126 = .ok (.invokespecial 81, 3) := by decide +kernel
theorem dX3_move_129 : decode cX3_move 129 = .ok (.athrow, 1) := by decide +kernel
theorem dX3_move_130 : decode cX3_move 130 = .ok (.aload_n 0, 1) := by decide +kernel
theorem dX3_move_131 : decode cX3_move 131 = .ok (.aload 5, 2) := by decide +kernel
theorem dX3_move_133 : decode cX3_move 133 = .ok (.invokevirtual 170, 3) := by decide +kernel
theorem dX3_move_136 : decode cX3_move 136 = .ok (.aload_n 0, 1) := by decide +kernel
theorem dX3_move_137 : decode cX3_move 137 = .ok (.aload 5, 2) := by decide +kernel
theorem dX3_move_139 : decode cX3_move 139 = .ok (.iload_n 2, 1) := by decide +kernel
theorem dX3_move_140 : decode cX3_move 140 = .ok (.iload_n 3, 1) := by decide +kernel
theorem dX3_move_141 : decode cX3_move 141 = .ok (.iload 4, 2) := by decide +kernel
theorem dX3_move_143 : decode cX3_move 143 = .ok (.invokevirtual 144, 3) := by decide +kernel
theorem dX3_move_146 : decode cX3_move 146 = .ok (.aload 5, 2) := by decide +kernel
theorem dX3_move_148 : decode cX3_move 148 = .ok (.getfield 161, 3) := by decide +kernel
theorem dX3_move_151 : decode cX3_move 151 = .ok (.getfield 85, 3) := by decide +kernel
theorem dX3_move_154 : decode cX3_move 154 = .ok (.ireturn, 1) := by decide +kernel
theorem dX3_drop_0 : decode cX3_drop 0 = .ok (.aload_n 0, 1) := by decide +kernel
theorem dX3_drop_1 : decode cX3_drop 1 = .ok (.iload_n 1, 1) := by decide +kernel
theorem dX3_drop_2 : decode cX3_drop 2 = .ok (.invokevirtual 149, 3) := by decide +kernel
theorem dX3_drop_5 : decode cX3_drop 5 = .ok (.astore_n 2, 1) := by decide +kernel
theorem dX3_drop_6 : decode cX3_drop 6 = .ok (.aload_n 2, 1) := by decide +kernel
theorem dX3_drop_7 : decode cX3_drop 7 = .ok (.ifnonnull 13, 3) := by decide +kernel
theorem dX3_drop_10 : decode cX3_drop 10 = .ok (.new 46, 3) := by decide +kernel
theorem dX3_drop_13 : decode cX3_drop 13 = .ok (.dup, 1) := by decide +kernel
theorem dX3_drop_14 : decode cX3_drop 14 = .ok (.ldc 174, 2) := by decide +kernel
theorem dX3_drop_16 : decode cX3_drop 16 = .ok (.invokespecial 50, 3) := by decide +kernel
theorem dX3_drop_19 : decode cX3_drop 19 = .ok (.athrow, 1) := by decide +kernel
theorem dX3_drop_20 : decode cX3_drop 20 = .ok (.aload_n 0, 1) := by decide +kernel
theorem dX3_drop_21 : decode cX3_drop 21 = .ok (.aload_n 2, 1) := by decide +kernel
theorem dX3_drop_22 : decode cX3_drop 22 = .ok (.invokevirtual 157, 3) := by decide +kernel
theorem dX3_drop_25 : decode cX3_drop 25 = .ok (.ifCond .ne 13, 3) := by decide +kernel
theorem dX3_drop_28 : decode cX3_drop 28 = .ok (.new 77, 3) := by decide +kernel
theorem dX3_drop_31 : decode cX3_drop 31 = .ok (.dup, 1) := by decide +kernel
theorem dX3_drop_32 : decode cX3_drop 32 = .ok (.ldc 176, 2) := by decide +kernel
theorem dX3_drop_34 : decode cX3_drop 34 = .ok (.invokespecial 81, 3) := by decide +kernel
theorem dX3_drop_37 : decode cX3_drop 37 = .ok (.athrow, 1) := by decide +kernel
theorem dX3_drop_38 : decode cX3_drop 38 = .ok (.aload_n 0, 1) := by decide +kernel
theorem dX3_drop_39 : decode cX3_drop 39 = .ok (.aload_n 2, 1) := by decide +kernel
theorem dX3_drop_40 : decode cX3_drop 40 = .ok (.invokevirtual 170, 3) := by decide +kernel
theorem dX3_drop_43 : decode cX3_drop 43 = .ok (.aload_n 2, 1) := by decide +kernel
theorem dX3_drop_44 : decode cX3_drop 44 = .ok (.iconst 3, 1) := by decide +kernel
theorem dX3_drop_45 : decode cX3_drop 45 = .ok (.putfield 178, 3) := by decide +kernel
theorem dX3_drop_48 : decode cX3_drop 48 = .ok (.aload_n 2, 1) := by decide +kernel
theorem dX3_drop_49 : decode cX3_drop 49 = .ok (.getfield 161, 3) := by decide +kernel
theorem dX3_drop_52 : decode cX3_drop 52 = .ok (.getfield 85, 3) := by decide +kernel
theorem dX3_drop_55 : decode cX3_drop 55 = .ok (.ireturn, 1) := by decide +kernel
theorem dX3_notice_0 : decode cX3_notice 0 = .ok (.aload_n 0, 1) := by decide +kernel
theorem dX3_notice_1 : decode cX3_notice 1 = .ok (.iload_n 1, 1) := by decide +kernel
theorem dX3_notice_2 : decode cX3_notice 2 = .ok (.invokevirtual 149, 3) := by decide +kernel
theorem dX3_notice_5 : decode cX3_notice 5 = .ok (.astore_n 3, 1) := by decide +kernel
theorem dX3_notice_6 : decode cX3_notice 6 = .ok (.aload_n 3, 1) := by decide +kernel
theorem dX3_notice_7 : decode cX3_notice 7 = .ok (.ifnull 12, 3) := by decide +kernel
theorem dX3_notice_10 : decode cX3_notice 10 = .ok (.iload_n 2, 1) := by decide +kernel
theorem dX3_notice_11 : decode cX3_notice 11 = .ok (.bipush 6, 2) := by decide +kernel
theorem dX3_notice_13 : decode cX3_notice 13 = .ok (.invokestatic 66, 3) := by decide +kernel
theorem dX3_notice_16 : decode cX3_notice 16 = .ok (.ifCond .ne 13, 3) := by decide +kernel
theorem dX3_notice_19 : decode cX3_notice 19 = .ok (.new 46, 3) := by decide +kernel
theorem dX3_notice_22 : decode cX3_notice 22 = .ok (.dup, 1) := by decide +kernel
theorem dX3_notice_23 : decode cX3_notice 23 = .ok (.ldc 179, 2) := by decide +kernel
theorem dX3_notice_25 : decode cX3_notice 25 = .ok (.invokespecial 50, 3) := by decide +kernel
theorem dX3_notice_28 : decode cX3_notice 28 = .ok (.athrow, 1) := by decide +kernel
theorem dX3_notice_29 : decode cX3_notice 29 = .ok (.aload_n 3, 1) := by decide +kernel
theorem dX3_notice_30 : decode cX3_notice 30 = .ok (.getfield 161, 3) := by decide +kernel
theorem dX3_notice_33 : decode cX3_notice 33 = .ok (.iload_n 2, 1) := by decide +kernel
theorem dX3_notice_34 : decode cX3_notice 34 = .ok (.invokevirtual 181, 3) := by decide +kernel
theorem dX3_notice_37 : decode cX3_notice 37 = .ok (.ifCond .ne 13, 3) := by decide +kernel
theorem dX3_notice_40 : decode cX3_notice 40 = .ok (.new 53, 3) := by decide +kernel
theorem dX3_notice_43 : decode cX3_notice 43 = .ok (.dup, 1) := by decide +kernel
theorem dX3_notice_44 : decode cX3_notice 44 = .ok (.ldc 185, 2) := by decide +kernel
theorem dX3_notice_46 : decode cX3_notice 46 = .ok (.invokespecial 57, 3) := by decide +kernel
theorem dX3_notice_49 : decode cX3_notice 49 = .ok (.athrow, 1) := by decide +kernel
theorem dX3_notice_50 : decode cX3_notice 50 = .ok (.aload_n 3, 1) := by decide +kernel
theorem dX3_notice_51 : decode cX3_notice 51 = .ok (.getfield 178, 3) := by decide +kernel
theorem dX3_notice_54 : decode cX3_notice 54 = .ok (.ifCond .eq 13, 3) := by decide +kernel
theorem dX3_notice_57 : decode cX3_notice 57 = .ok (.new 77, 3) := by decide +kernel
theorem dX3_notice_60 : decode cX3_notice 60 = .ok (.dup, 1) := by decide +kernel
theorem dX3_notice_61 : decode cX3_notice 61 = .ok (.ldc 187, 2) := by decide +kernel
theorem dX3_notice_63 : decode cX3_notice 63 = .ok (.invokespecial 81, 3) := by decide +kernel
theorem dX3_notice_66 : decode cX3_notice 66 = .ok (.athrow, 1) := by decide +kernel
theorem dX3_notice_67 : decode cX3_notice 67 = .ok (.aload_n 3, 1) := by decide +kernel
theorem dX3_notice_68 : decode cX3_notice 68 = .ok (.getfield 189, 3) := by decide +kernel
theorem dX3_notice_71 : decode cX3_notice 71 = .ok (.aload_n 0, 1) := by decide +kernel
theorem dX3_notice_72 : decode cX3_notice 72 = .ok (.getfield 38, 3) := by decide +kernel
theorem dX3_notice_75 : decode cX3_notice 75 = .ok (.isub, 1) := by decide +kernel
theorem dX3_notice_76 : decode cX3_notice 76 = .ok (.iconst 4, 1) := by decide +kernel
theorem dX3_notice_77 : decode cX3_notice 77 = .ok (.if_icmp .lt 7, 3) := by decide +kernel
theorem dX3_notice_80 : decode cX3_notice 80 = .ok (.iconst 1, 1) := by decide +kernel
theorem dX3_notice_81 : decode cX3_notice 81 = .ok (.goto 4, 3) := by decide +kernel
theorem dX3_notice_84 : decode cX3_notice 84 = .ok (.iconst 0, 1) := by decide +kernel
theorem dX3_notice_85 : decode cX3_notice 85 = .ok (.istore 4, 2) := by decide +kernel
theorem dX3_notice_87 : decode cX3_notice 87 = .ok (.iload 4, 2) := by decide +kernel
theorem dX3_notice_89 : decode cX3_notice 89 = .ok (.ifCond .eq 8, 3) := by decide +kernel
theorem dX3_notice_92 : decode cX3_notice 92 = .ok (.aload_n 3, 1) := by decide +kernel
theorem dX3_notice_93 : decode cX3_notice 93 = .ok (.iload_n 2, 1) := by decide +kernel
theorem dX3_notice_94 : decode cX3_notice 94 = .ok (.invokevirtual 192, 3) := by decide +kernel
theorem dX3_notice_97 : decode cX3_notice 97 = .ok (.iload 4, 2) := by decide +kernel
theorem dX3_notice_99 : decode cX3_notice 99 = .ok (.ireturn, 1) := by decide +kernel
theorem dX3_pass_0 : decode cX3_pass 0 = .ok (.iload_n 1, 1) := by decide +kernel
theorem dX3_pass_1 : decode cX3_pass 1 = .ok (.iconst 1, 1) := by decide +kernel
theorem dX3_pass_2 : decode cX3_pass 2 = .ok (.if_icmp .lt 9, 3) := by decide +kernel
theorem dX3_pass_5 : decode cX3_pass 5 = .ok (.iload_n 1, 1) := by decide +kernel
theorem dX3_pass_6 : decode cX3_pass 6 = .ok (.bipush 50, 2) := by decide +kernel
theorem dX3_pass_8 : decode cX3_pass 8 = .ok (.if_icmp .le 13, 3) := by decide +kernel
theorem dX3_pass_11 : decode cX3_pass 11 = .ok (.new 53, 3) := by decide +kernel
theorem dX3_pass_14 : decode cX3_pass 14 = .ok (.dup, 1) := by decide +kernel
theorem dX3_pass_15 : decode cX3_pass 15 = .ok (.ldc 196, 2) := by decide +kernel
theorem dX3_pass_17 : decode cX3_pass 17 = .ok (.invokespecial 57, 3) := by decide +kernel
theorem dX3_pass_20 : decode cX3_pass 20 = .ok (.athrow, 1) := by decide +kernel
theorem dX3_pass_21 : decode cX3_pass 21 = .ok (.aload_n 0, 1) := by decide +kernel
theorem dX3_pass_22 : decode cX3_pass 22 = .ok (.getfield 38, 3) := by decide +kernel
theorem dX3_pass_25 : decode cX3_pass 25 = .ok (.iload_n 1, 1) := by decide +kernel
theorem dX3_pass_26 : decode cX3_pass 26 = .ok (.iadd, 1) := by decide +kernel
theorem dX3_pass_27 : decode cX3_pass 27 = .ok (.sipush 1000, 3) := by decide +kernel
theorem dX3_pass_30 : decode cX3_pass 30 = .ok (.if_icmp .le 13, 3) := by decide +kernel
theorem dX3_pass_33 : decode cX3_pass 33 = .ok (.new 77, 3) := by decide +kernel
theorem dX3_pass_36 : decode cX3_pass 36 = .ok (.dup, 1) := by decide +kernel
theorem dX3_pass_37 : decode cX3_pass 37 = .ok (.ldc 198, 2) := by decide +kernel
theorem dX3_pass_39 : decode cX3_pass 39 = .ok (.invokespecial 81, 3) := by decide +kernel
theorem dX3_pass_42 : decode cX3_pass 42 = .ok (.athrow, 1) := by decide +kernel
theorem dX3_pass_43 : decode cX3_pass 43 = .ok (.iconst 0, 1) := by decide +kernel
theorem dX3_pass_44 : decode cX3_pass 44 = .ok (.istore_n 2, 1) := by decide +kernel
theorem dX3_pass_45 : decode cX3_pass 45 = .ok (.iconst 0, 1) := by decide +kernel
theorem dX3_pass_46 : decode cX3_pass 46 = .ok (.istore_n 3, 1) := by decide +kernel
theorem dX3_pass_47 : decode cX3_pass 47 = .ok (.iload_n 3, 1) := by decide +kernel
theorem dX3_pass_48 : decode cX3_pass 48 = .ok (.iload_n 1, 1) := by decide +kernel
theorem dX3_pass_49 : decode cX3_pass 49 = .ok (.if_icmp .ge 30, 3) := by decide +kernel
theorem dX3_pass_52 : decode cX3_pass 52 = .ok (.aload_n 0, 1) := by decide +kernel
theorem dX3_pass_53 : decode cX3_pass 53 = .ok (.dup, 1) := by decide +kernel
theorem dX3_pass_54 : decode cX3_pass 54 = .ok (.getfield 38, 3) := by decide +kernel
theorem dX3_pass_57 : decode cX3_pass 57 = .ok (.iconst 1, 1) := by decide +kernel
theorem dX3_pass_58 : decode cX3_pass 58 = .ok (.iadd, 1) := by decide +kernel
theorem dX3_pass_59 : decode cX3_pass 59 = .ok (.putfield 38, 3) := by decide +kernel
theorem dX3_pass_62 : decode cX3_pass 62 = .ok (.iload_n 2, 1) := by decide +kernel
theorem dX3_pass_63 : decode cX3_pass 63 = .ok (.aload_n 0, 1) := by decide +kernel
theorem dX3_pass_64 : decode cX3_pass 64 = .ok (.invokevirtual 200, 3) := by decide +kernel
theorem dX3_pass_67 : decode cX3_pass 67 = .ok (.iadd, 1) := by decide +kernel
theorem dX3_pass_68 : decode cX3_pass 68 = .ok (.istore_n 2, 1) := by decide +kernel
theorem dX3_pass_69 : decode cX3_pass 69 = .ok (.aload_n 0, 1) := by decide +kernel
theorem dX3_pass_70 : decode cX3_pass 70 = .ok (.invokevirtual 204, 3) := by decide +kernel
theorem dX3_pass_73 : decode cX3_pass 73 = .ok (.iinc 3 1, 3) := by decide +kernel
theorem dX3_pass_76 : decode cX3_pass 76 = .ok (.goto (-29), 3) := by decide +kernel
theorem dX3_pass_79 : decode cX3_pass 79 = .ok (.iload_n 2, 1) := by decide +kernel
theorem dX3_pass_80 : decode cX3_pass 80 = .ok (.ireturn, 1) := by decide +kernel
theorem dX3_clash_0 : decode cX3_clash 0 = .ok (.aload_n 0, 1) := by decide +kernel
theorem dX3_clash_1 : decode cX3_clash 1 = .ok (.iload_n 1, 1) := by decide +kernel
theorem dX3_clash_2 : decode cX3_clash 2 = .ok (.invokevirtual 95, 3) := by decide +kernel
theorem dX3_clash_5 : decode cX3_clash 5 = .ok (.astore 6, 2) := by decide +kernel
theorem dX3_clash_7 : decode cX3_clash 7 = .ok (.aload 6, 2) := by decide +kernel
theorem dX3_clash_9 : decode cX3_clash 9 = .ok (.ifnull 19, 3) := by decide +kernel
theorem dX3_clash_12 : decode cX3_clash 12 = .ok (.iload_n 2, 1) := by decide +kernel
theorem dX3_clash_13 : decode cX3_clash 13 = .ok (.iconst 4, 1) := by decide +kernel
theorem dX3_clash_14 : decode cX3_clash 14 = .ok (.invokestatic 66, 3) := by decide +kernel
theorem dX3_clash_17 : decode cX3_clash 17 = .ok (.ifCond .eq 11, 3) := by decide +kernel
theorem dX3_clash_20 : decode cX3_clash 20 = .ok (.iload_n 3, 1) := by decide +kernel
theorem dX3_clash_21 : decode cX3_clash 21 = .ok (.iconst 4, 1) := by decide +kernel
theorem dX3_clash_22 : decode cX3_clash 22 = .ok (.invokestatic 70, 3) := by decide +kernel
theorem dX3_clash_25 : decode cX3_clash 25 = .ok (.ifCond .ne 13, 3) := by decide +kernel
theorem dX3_clash_28 : decode cX3_clash 28 = .ok (.new 46, 3) := by decide +kernel
theorem dX3_clash_31 : decode cX3_clash 31 = .ok (.dup, 1) := by decide +kernel
theorem dX3_clash_32 : decode cX3_clash 32 = .ok (.ldc 121, 2) := by decide +kernel
theorem dX3_clash_34 : decode cX3_clash 34 = .ok (.invokespecial 50, 3) := by decide +kernel
theorem dX3_clash_37 : decode cX3_clash 37 = .ok (.athrow, 1) := by decide +kernel
theorem dX3_clash_38 : decode cX3_clash 38 = .ok (.iload 4, 2) := by decide +kernel
theorem dX3_clash_40 : decode cX3_clash 40 = .ok (.ifCond .lt 23, 3) := by decide +kernel
theorem dX3_clash_43 : decode cX3_clash 43 = .ok (.iload 4, 2) := by decide +kernel
theorem dX3_clash_45 : decode cX3_clash 45 = .ok (.sipush 999, 3) := by decide +kernel
theorem dX3_clash_48 : decode cX3_clash 48 = .ok (.if_icmp .gt 15, 3) := by decide +kernel
theorem dX3_clash_51 : decode cX3_clash 51 = .ok (.iload 5, 2) := by decide +kernel
theorem dX3_clash_53 : decode cX3_clash 53 = .ok (.iconst 1, 1) := by decide +kernel
theorem dX3_clash_54 : decode cX3_clash 54 = .ok (.if_icmp .lt 9, 3) := by decide +kernel
theorem dX3_clash_57 : decode cX3_clash 57 = .ok (.iload 5, 2) := by decide +kernel
theorem dX3_clash_59 : decode cX3_clash 59 = .ok (.iconst 4, 1) := by decide +kernel
theorem dX3_clash_60 : decode cX3_clash 60 = .ok (.if_icmp .le 13, 3) := by decide +kernel
theorem dX3_clash_63 : decode cX3_clash 63 = .ok (.new 53, 3) := by decide +kernel
theorem dX3_clash_66 : decode cX3_clash 66 = .ok (.dup, 1) := by decide +kernel
theorem dX3_clash_67 : decode cX3_clash 67 = .ok (.ldc 123, 2) := by decide +kernel
theorem dX3_clash_69 : decode cX3_clash 69 = .ok (.invokespecial 57, 3) := by decide +kernel
theorem dX3_clash_72 : decode cX3_clash 72 = .ok (.athrow, 1) := by decide +kernel
theorem dX3_clash_73 : decode cX3_clash 73 = .ok (.aload_n 0, 1) := by decide +kernel
theorem dX3_clash_74 : decode cX3_clash 74 = .ok (.aconst_null, 1) := by decide +kernel
theorem dX3_clash_75 : decode cX3_clash 75 = .ok (.aload 6, 2) := by decide +kernel
theorem dX3_clash_77 : decode cX3_clash 77 = .ok (.iload_n 2, 1) := by decide +kernel
theorem dX3_clash_78 : decode cX3_clash 78 = .ok (.iload_n 3, 1) := by decide +kernel
theorem dX3_clash_79 : decode cX3_clash 79 = .ok (.iload 4, 2) := by decide +kernel
theorem dX3_clash_81 : decode cX3_clash 81 = .ok (.iload 5, 2) := by decide +kernel
theorem dX3_clash_83 : decode cX3_clash 83 = .ok (.invokevirtual 135, 3) := by decide +kernel
theorem dX3_clash_86 : decode cX3_clash 86 = .ok (.ireturn, 1) := by decide +kernel
theorem dX3_at_0 : decode cX3_at 0 = .ok (.iload_n 1, 1) := by decide +kernel
theorem dX3_at_1 : decode cX3_at 1 = .ok (.iconst 4, 1) := by decide +kernel
theorem dX3_at_2 : decode cX3_at 2 = .ok (.invokestatic 66, 3) := by decide +kernel
theorem dX3_at_5 : decode cX3_at 5 = .ok (.ifCond .ne 13, 3) := by decide +kernel
theorem dX3_at_8 : decode cX3_at 8 = .ok (.new 53, 3) := by decide +kernel
theorem dX3_at_11 : decode cX3_at 11 = .ok (.dup, 1) := by decide +kernel
theorem dX3_at_12 : decode cX3_at 12 = .ok (.ldc 207, 2) := by decide +kernel
theorem dX3_at_14 : decode cX3_at 14 = .ok (.invokespecial 57, 3) := by decide +kernel
theorem dX3_at_17 : decode cX3_at 17 = .ok (.athrow, 1) := by decide +kernel
theorem dX3_at_18 : decode cX3_at 18 = .ok (.iload_n 2, 1) := by decide +kernel
theorem dX3_at_19 : decode cX3_at 19 = .ok (.iload_n 1, 1) := by decide +kernel
theorem dX3_at_20 : decode cX3_at 20 = .ok (.invokestatic 209, 3) := by decide +kernel
theorem dX3_at_23 : decode cX3_at 23 = .ok (.invokestatic 66, 3) := by decide +kernel
theorem dX3_at_26 : decode cX3_at 26 = .ok (.ifCond .eq 10, 3) := by decide +kernel
theorem dX3_at_29 : decode cX3_at 29 = .ok (.iload_n 3, 1) := by decide +kernel
theorem dX3_at_30 : decode cX3_at 30 = .ok (.invokestatic 213, 3) := by decide +kernel
theorem dX3_at_33 : decode cX3_at 33 = .ok (.ifCond .ne 13, 3) := by decide +kernel
theorem dX3_at_36 : decode cX3_at 36 = .ok (.new 46, 3) := by decide +kernel
theorem dX3_at_39 : decode cX3_at 39 = .ok (.dup, 1) := by decide +kernel
theorem dX3_at_40 : decode cX3_at 40 = .ok (.ldc 216, 2) := by decide +kernel
theorem dX3_at_42 : decode cX3_at 42 = .ok (.invokespecial 50, 3) := by decide +kernel
theorem dX3_at_45 : decode cX3_at 45 = .ok (.athrow, 1) := by decide +kernel
theorem dX3_at_46 : decode cX3_at 46 = .ok (.iconst 0, 1) := by decide +kernel
theorem dX3_at_47 : decode cX3_at 47 = .ok (.istore 4, 2) := by decide +kernel
theorem dX3_at_49 : decode cX3_at 49 = .ok (.iload 4, 2) := by decide +kernel
theorem dX3_at_51 : decode cX3_at 51 = .ok (.aload_n 0, 1) := by decide +kernel
theorem dX3_at_52 : decode cX3_at 52 = .ok (.getfield 35, 3) := by decide +kernel
theorem dX3_at_55 : decode cX3_at 55 = .ok (.if_icmp .ge 48, 3) := by decide +kernel
theorem dX3_at_58 : decode cX3_at 58 = .ok (.aload_n 0, 1) := by decide +kernel
theorem dX3_at_59 : decode cX3_at 59 = .ok (.iload 4, 2) := by decide +kernel
theorem dX3_at_61 : decode cX3_at 61 = .ok (.invokevirtual 149, 3) := by decide +kernel
theorem dX3_at_64 : decode cX3_at 64 = .ok (.astore 5, 2) := by decide +kernel
theorem dX3_at_66 : decode cX3_at 66 = .ok (.aload 5, 2) := by decide +kernel
theorem dX3_at_68 : decode cX3_at 68 = .ok (.ifnull 29, 3) := by decide +kernel
theorem dX3_at_71 : decode cX3_at 71 = .ok (.aload 5, 2) := by decide +kernel
theorem dX3_at_73 : decode cX3_at 73 = .ok (.iload_n 3, 1) := by decide +kernel
theorem dX3_at_74 : decode cX3_at 74 = .ok (.iconst 1, 1) := by decide +kernel
theorem dX3_at_75 : decode cX3_at 75 = .ok (.invokevirtual 218, 3) := by decide +kernel
theorem dX3_at_78 : decode cX3_at 78 = .ok (.ifCond .eq 19, 3) := by decide +kernel
theorem dX3_at_81 : decode cX3_at 81 = .ok (.aload 5, 2) := by decide +kernel
theorem dX3_at_83 : decode cX3_at 83 = .ok (.iload_n 1, 1) := by decide +kernel
theorem dX3_at_84 : decode cX3_at 84 = .ok (.iload_n 2, 1) := by decide +kernel
theorem dX3_at_85 : decode cX3_at 85 = .ok (.invokevirtual 221, 3) := by decide +kernel
theorem dX3_at_88 : decode cX3_at 88 = .ok (.ifCond .eq 9, 3) := by decide +kernel
theorem dX3_at_91 : decode cX3_at 91 = .ok (.aload 5, 2) := by decide +kernel
theorem dX3_at_93 : decode cX3_at 93 = .ok (.getfield 148, 3) := by decide +kernel
theorem dX3_at_96 : decode cX3_at 96 = .ok (.ireturn, 1) := by decide +kernel
theorem dX3_at_97 : decode cX3_at 97 = .ok (.iinc 4 1, 3) := by decide +kernel
theorem dX3_at_100 : decode cX3_at 100 = .ok (.goto (-51), 3) := by decide +kernel
theorem dX3_at_103 : decode cX3_at 103 = .ok (.iconst (-1), 1) := by decide +kernel
theorem dX3_at_104 : decode cX3_at 104 = .ok (.ireturn, 1) := by decide +kernel
theorem dX3_about_0 : decode cX3_about 0 = .ok (.aload_n 0, 1) := by decide +kernel
theorem dX3_about_1 : decode cX3_about 1 = .ok (.iload_n 1, 1) := by decide +kernel
theorem dX3_about_2 : decode cX3_about 2 = .ok (.invokevirtual 95, 3) := by decide +kernel
theorem dX3_about_5 : decode cX3_about 5 = .ok (.astore_n 3, 1) := by decide +kernel
theorem dX3_about_6 : decode cX3_about 6 = .ok (.aload_n 3, 1) := by decide +kernel
theorem dX3_about_7 : decode cX3_about 7 = .ok (.ifnonnull 13, 3) := by decide +kernel
theorem dX3_about_10 : decode cX3_about 10 = .ok (.new 46, 3) := by decide +kernel
theorem dX3_about_13 : decode cX3_about 13 = .ok (.dup, 1) := by decide +kernel
theorem dX3_about_14 : decode cX3_about 14 = .ok (.ldc 99, 2) := by decide +kernel
theorem dX3_about_16 : decode cX3_about 16 = .ok (.invokespecial 50, 3) := by decide +kernel
theorem dX3_about_19 : decode cX3_about 19 = .ok (.athrow, 1) := by decide +kernel
theorem dX3_about_20 : decode cX3_about 20 = .ok (.iload_n 2, 1) := by decide +kernel
theorem dX3_about_21 : decode cX3_about 21 = .ok (.bipush 8, 2) := by decide +kernel
theorem dX3_about_23 : decode cX3_about 23 = .ok (.invokestatic 66, 3) := by decide +kernel
theorem dX3_about_26 : decode cX3_about 26 = .ok (.ifCond .ne 13, 3) := by decide +kernel
theorem dX3_about_29 : decode cX3_about 29 = .ok (.new 53, 3) := by decide +kernel
theorem dX3_about_32 : decode cX3_about 32 = .ok (.dup, 1) := by decide +kernel
theorem dX3_about_33 : decode cX3_about 33 = .ok (.ldc 207, 2) := by decide +kernel
theorem dX3_about_35 : decode cX3_about 35 = .ok (.invokespecial 57, 3) := by decide +kernel
theorem dX3_about_38 : decode cX3_about 38 = .ok (.athrow, 1) := by decide +kernel
theorem dX3_about_39 : decode cX3_about 39 = .ok (.iload_n 2, 1) := by decide +kernel
theorem dX3_about_40 : decode cX3_about 40 = .ok (.tableswitch 79 0 6 #[44, 49, 54, 59, 64, 69, 74], 44) := by decide +kernel
theorem dX3_about_84 : decode cX3_about 84 = .ok (.aload_n 3, 1) := by decide +kernel
theorem dX3_about_85 : decode cX3_about 85 = .ok (.getfield 103, 3) := by decide +kernel
theorem dX3_about_88 : decode cX3_about 88 = .ok (.ireturn, 1) := by decide +kernel
theorem dX3_about_89 : decode cX3_about 89 = .ok (.aload_n 3, 1) := by decide +kernel
theorem dX3_about_90 : decode cX3_about 90 = .ok (.getfield 224, 3) := by decide +kernel
theorem dX3_about_93 : decode cX3_about 93 = .ok (.ireturn, 1) := by decide +kernel
theorem dX3_about_94 : decode cX3_about 94 = .ok (.aload_n 3, 1) := by decide +kernel
theorem dX3_about_95 : decode cX3_about 95 = .ok (.getfield 227, 3) := by decide +kernel
theorem dX3_about_98 : decode cX3_about 98 = .ok (.ireturn, 1) := by decide +kernel
theorem dX3_about_99 : decode cX3_about 99 = .ok (.aload_n 3, 1) := by decide +kernel
theorem dX3_about_100 : decode cX3_about 100 = .ok (.getfield 230, 3) := by decide +kernel
theorem dX3_about_103 : decode cX3_about 103 = .ok (.ireturn, 1) := by decide +kernel
theorem dX3_about_104 : decode cX3_about 104 = .ok (.aload_n 3, 1) := by decide +kernel
theorem dX3_about_105 : decode cX3_about 105 = .ok (.getfield 233, 3) := by decide +kernel
theorem dX3_about_108 : decode cX3_about 108 = .ok (.ireturn, 1) := by decide +kernel
theorem dX3_about_109 : decode cX3_about 109 = .ok (.aload_n 3, 1) := by decide +kernel
theorem dX3_about_110 : decode cX3_about 110 = .ok (.getfield 85, 3) := by decide +kernel
theorem dX3_about_113 : decode cX3_about 113 = .ok (.ireturn, 1) := by decide +kernel
theorem dX3_about_114 : decode cX3_about 114 = .ok (.aload_n 3, 1) := by decide +kernel
theorem dX3_about_115 : decode cX3_about 115 = .ok (.getfield 116, 3) := by decide +kernel
theorem dX3_about_118 : decode cX3_about 118 = .ok (.ireturn, 1) := by decide +kernel
theorem dX3_about_119 : decode cX3_about 119 = .ok (.aload_n 0, 1) := by decide +kernel
theorem dX3_about_120 : decode cX3_about 120 = .ok (.aload_n 3, 1) := by decide +kernel
theorem dX3_about_121 : decode cX3_about 121 = .ok (.invokevirtual 236, 3) := by decide +kernel
theorem dX3_about_124 : decode cX3_about 124 = .ok (.ireturn, 1) := by decide +kernel
theorem dX3_hearing_0 : decode cX3_hearing 0 = .ok (.aload_n 0, 1) := by decide +kernel
theorem dX3_hearing_1 : decode cX3_hearing 1 = .ok (.iload_n 1, 1) := by decide +kernel
theorem dX3_hearing_2 : decode cX3_hearing 2 = .ok (.invokevirtual 149, 3) := by decide +kernel
theorem dX3_hearing_5 : decode cX3_hearing 5 = .ok (.astore_n 3, 1) := by decide +kernel
theorem dX3_hearing_6 : decode cX3_hearing 6 = .ok (.aload_n 3, 1) := by decide +kernel
theorem dX3_hearing_7 : decode cX3_hearing 7 = .ok (.ifnonnull 13, 3) := by decide +kernel
theorem dX3_hearing_10 : decode cX3_hearing 10 = .ok (.new 46, 3) := by decide +kernel
theorem dX3_hearing_13 : decode cX3_hearing 13 = .ok (.dup, 1) := by decide +kernel
theorem dX3_hearing_14 : decode cX3_hearing 14 = .ok (.ldc 174, 2) := by decide +kernel
theorem dX3_hearing_16 : decode cX3_hearing 16 = .ok (.invokespecial 50, 3) := by decide +kernel
theorem dX3_hearing_19 : decode cX3_hearing 19 = .ok (.athrow, 1) := by decide +kernel
theorem dX3_hearing_20 : decode cX3_hearing 20 = .ok (.iload_n 2, 1) := by decide +kernel
theorem dX3_hearing_21 : decode cX3_hearing 21 = .ok (.bipush 8, 2) := by decide +kernel
theorem dX3_hearing_23 : decode cX3_hearing 23 = .ok (.invokestatic 66, 3) := by decide +kernel
theorem dX3_hearing_26 : decode cX3_hearing 26 = .ok (.ifCond .ne 13, 3) := by decide +kernel
theorem dX3_hearing_29 : decode cX3_hearing 29 = .ok (.new 53, 3) := by decide +kernel
theorem dX3_hearing_32 : decode cX3_hearing 32 = .ok (.dup, 1) := by decide +kernel
theorem dX3_hearing_33 : decode cX3_hearing 33 = .ok (.ldc 207, 2) := by decide +kernel
theorem dX3_hearing_35 : decode cX3_hearing 35 = .ok (.invokespecial 57, 3) := by decide +kernel
theorem dX3_hearing_38 : decode cX3_hearing 38 = .ok (.athrow, 1) := by decide +kernel
theorem dX3_hearing_39 : decode cX3_hearing 39 = .ok (.iload_n 2, 1) := by decide +kernel
theorem dX3_hearing_40 : decode cX3_hearing 40 = .ok (.tableswitch 82 0 6 #[44, 49, 57, 62, 67, 72, 77], 44) := by decide +kernel
theorem dX3_hearing_84 : decode cX3_hearing 84 = .ok (.aload_n 3, 1) := by decide +kernel
theorem dX3_hearing_85 : decode cX3_hearing 85 = .ok (.getfield 178, 3) := by decide +kernel
theorem dX3_hearing_88 : decode cX3_hearing 88 = .ok (.ireturn, 1) := by decide +kernel
theorem dX3_hearing_89 : decode cX3_hearing 89 = .ok (.aload_n 3, 1) := by decide +kernel
theorem dX3_hearing_90 : decode cX3_hearing 90 = .ok (.getfield 161, 3) := by decide +kernel
theorem dX3_hearing_93 : decode cX3_hearing 93 = .ok (.getfield 92, 3) := by decide +kernel
theorem dX3_hearing_96 : decode cX3_hearing 96 = .ok (.ireturn, 1) := by decide +kernel
theorem dX3_hearing_97 : decode cX3_hearing 97 = .ok (.aload_n 3, 1) := by decide +kernel
theorem dX3_hearing_98 : decode cX3_hearing 98 = .ok (.getfield 239, 3) := by decide +kernel
theorem dX3_hearing_101 : decode cX3_hearing 101 = .ok (.ireturn, 1) := by decide +kernel
theorem dX3_hearing_102 : decode cX3_hearing 102 = .ok (.aload_n 3, 1) := by decide +kernel
theorem dX3_hearing_103 : decode cX3_hearing 103 = .ok (.getfield 242, 3) := by decide +kernel
theorem dX3_hearing_106 : decode cX3_hearing 106 = .ok (.ireturn, 1) := by decide +kernel
theorem dX3_hearing_107 : decode cX3_hearing 107 = .ok (.aload_n 3, 1) := by decide +kernel
theorem dX3_hearing_108 : decode cX3_hearing 108 = .ok (.getfield 189, 3) := by decide +kernel
theorem dX3_hearing_111 : decode cX3_hearing 111 = .ok (.ireturn, 1) := by decide +kernel
theorem dX3_hearing_112 : decode cX3_hearing 112 = .ok (.aload_n 3, 1) := by decide +kernel
theorem dX3_hearing_113 : decode cX3_hearing 113 = .ok (.getfield 167, 3) := by decide +kernel
theorem dX3_hearing_116 : decode cX3_hearing 116 = .ok (.ireturn, 1) := by decide +kernel
theorem dX3_hearing_117 : decode cX3_hearing 117 = .ok (.aload_n 3, 1) := by decide +kernel
theorem dX3_hearing_118 : decode cX3_hearing 118 = .ok (.invokevirtual 245, 3) := by decide +kernel
theorem dX3_hearing_121 : decode cX3_hearing 121 = .ok (.ireturn, 1) := by decide +kernel
theorem dX3_hearing_122 : decode cX3_hearing 122 = .ok (.aload_n 3, 1) := by decide +kernel
theorem dX3_hearing_123 : decode cX3_hearing 123 = .ok (.invokevirtual 248, 3) := by decide +kernel
theorem dX3_hearing_126 : decode cX3_hearing 126 = .ok (.ireturn, 1) := by decide +kernel
theorem dX3_paidBy_0 : decode cX3_paidBy 0 = .ok (.aload_n 0, 1) := by decide +kernel
theorem dX3_paidBy_1 : decode cX3_paidBy 1 = .ok (.iload_n 1, 1) := by decide +kernel
theorem dX3_paidBy_2 : decode cX3_paidBy 2 = .ok (.invokevirtual 42, 3) := by decide +kernel
theorem dX3_paidBy_5 : decode cX3_paidBy 5 = .ok (.astore_n 3, 1) := by decide +kernel
theorem dX3_paidBy_6 : decode cX3_paidBy 6 = .ok (.aload_n 3, 1) := by decide +kernel
theorem dX3_paidBy_7 : decode cX3_paidBy 7 = .ok (.ifnull 10, 3) := by decide +kernel
theorem dX3_paidBy_10 : decode cX3_paidBy 10 = .ok (.iload_n 2, 1) := by decide +kernel
theorem dX3_paidBy_11 : decode cX3_paidBy 11 = .ok (.invokestatic 213, 3) := by decide +kernel
theorem dX3_paidBy_14 : decode cX3_paidBy 14 = .ok (.ifCond .ne 13, 3) := by decide +kernel
theorem dX3_paidBy_17 : decode cX3_paidBy 17 = .ok (.new 46, 3) := by decide +kernel
theorem dX3_paidBy_20 : decode cX3_paidBy 20 = .ok (.dup, 1) := by decide +kernel
theorem dX3_paidBy_21 : decode cX3_paidBy 21 = .ok (.ldc 251, 2) := by decide +kernel
theorem dX3_paidBy_23 : decode cX3_paidBy 23 = .ok (.invokespecial 50, 3) := by decide +kernel
theorem dX3_paidBy_26 : decode cX3_paidBy 26 = .ok (.athrow, 1) := by decide +kernel
theorem dX3_paidBy_27 : decode cX3_paidBy 27 = .ok (.aload_n 3, 1) := by decide +kernel
theorem dX3_paidBy_28 : decode cX3_paidBy 28 = .ok (.iload_n 2, 1) := by decide +kernel
theorem dX3_paidBy_29 : decode cX3_paidBy 29 = .ok (.aload_n 0, 1) := by decide +kernel
theorem dX3_paidBy_30 : decode cX3_paidBy 30 = .ok (.getfield 38, 3) := by decide +kernel
theorem dX3_paidBy_33 : decode cX3_paidBy 33 = .ok (.invokevirtual 253, 3) := by decide +kernel
theorem dX3_paidBy_36 : decode cX3_paidBy 36 = .ok (.astore 4, 2) := by decide +kernel
theorem dX3_paidBy_38 : decode cX3_paidBy 38 = .ok (.aload 4, 2) := by decide +kernel
theorem dX3_paidBy_40 : decode cX3_paidBy 40 = .ok (.ifnonnull 7, 3) := by decide +kernel
theorem dX3_paidBy_43 : decode cX3_paidBy 43 = .ok (.iconst (-1), 1) := by decide +kernel
theorem dX3_paidBy_44 : decode cX3_paidBy 44 = .ok (.goto 8, 3) := by decide +kernel
theorem dX3_paidBy_47 : decode cX3_paidBy 47 = .ok (.aload 4, 2) := by decide +kernel
theorem dX3_paidBy_49 : decode cX3_paidBy 49 = .ok (.getfield 92, 3) := by decide +kernel
theorem dX3_paidBy_52 : decode cX3_paidBy 52 = .ok (.ireturn, 1) := by decide +kernel
theorem dX3_balances_0 : decode cX3_balances 0 = .ok (.iconst 0, 1) := by decide +kernel
theorem dX3_balances_1 : decode cX3_balances 1 = .ok (.istore_n 1, 1) := by decide +kernel
theorem dX3_balances_2 : decode cX3_balances 2 = .ok (.iconst 0, 1) := by decide +kernel
theorem dX3_balances_3 : decode cX3_balances 3 = .ok (.istore_n 2, 1) := by decide +kernel
theorem dX3_balances_4 : decode cX3_balances 4 = .ok (.iload_n 2, 1) := by decide +kernel
theorem dX3_balances_5 : decode cX3_balances 5 = .ok (.aload_n 0, 1) := by decide +kernel
theorem dX3_balances_6 : decode cX3_balances 6 = .ok (.getfield 31, 3) := by decide +kernel
theorem dX3_balances_9 : decode cX3_balances 9 = .ok (.if_icmp .ge 26, 3) := by decide +kernel
theorem dX3_balances_12 : decode cX3_balances 12 = .ok (.aload_n 0, 1) := by decide +kernel
theorem dX3_balances_13 : decode cX3_balances 13 = .ok (.iload_n 2, 1) := by decide +kernel
theorem dX3_balances_14 : decode cX3_balances 14 = .ok (.invokevirtual 95, 3) := by decide +kernel
theorem dX3_balances_17 : decode cX3_balances 17 = .ok (.astore_n 3, 1) := by decide +kernel
theorem dX3_balances_18 : decode cX3_balances 18 = .ok (.aload_n 3, 1) := by decide +kernel
theorem dX3_balances_19 : decode cX3_balances 19 = .ok (.ifnull 10, 3) := by decide +kernel
theorem dX3_balances_22 : decode cX3_balances 22 = .ok (.iload_n 1, 1) := by decide +kernel
theorem dX3_balances_23 : decode cX3_balances 23 = .ok (.aload_n 3, 1) := by decide +kernel
theorem dX3_balances_24 : decode cX3_balances 24 = .ok (.getfield 85, 3) := by decide +kernel
theorem dX3_balances_27 : decode cX3_balances 27 = .ok (.iadd, 1) := by decide +kernel
theorem dX3_balances_28 : decode cX3_balances 28 = .ok (.istore_n 1, 1) := by decide +kernel
theorem dX3_balances_29 : decode cX3_balances 29 = .ok (.iinc 2 1, 3) := by decide +kernel
theorem dX3_balances_32 : decode cX3_balances 32 = .ok (.goto (-28), 3) := by decide +kernel
theorem dX3_balances_35 : decode cX3_balances 35 = .ok (.iload_n 1, 1) := by decide +kernel
theorem dX3_balances_36 : decode cX3_balances 36 = .ok (.ireturn, 1) := by decide +kernel
theorem dX3_hour_0 : decode cX3_hour 0 = .ok (.aload_n 0, 1) := by decide +kernel
theorem dX3_hour_1 : decode cX3_hour 1 = .ok (.getfield 38, 3) := by decide +kernel
theorem dX3_hour_4 : decode cX3_hour 4 = .ok (.ireturn, 1) := by decide +kernel
theorem dX3_isIn_0 : decode cX3_isIn 0 = .ok (.iload_n 0, 1) := by decide +kernel
theorem dX3_isIn_1 : decode cX3_isIn 1 = .ok (.ifCond .lt 12, 3) := by decide +kernel
theorem dX3_isIn_4 : decode cX3_isIn 4 = .ok (.iload_n 0, 1) := by decide +kernel
theorem dX3_isIn_5 : decode cX3_isIn 5 = .ok (.iload_n 1, 1) := by decide +kernel
theorem dX3_isIn_6 : decode cX3_isIn 6 = .ok (.if_icmp .ge 7, 3) := by decide +kernel
theorem dX3_isIn_9 : decode cX3_isIn 9 = .ok (.iconst 1, 1) := by decide +kernel
theorem dX3_isIn_10 : decode cX3_isIn 10 = .ok (.goto 4, 3) := by decide +kernel
theorem dX3_isIn_13 : decode cX3_isIn 13 = .ok (.iconst 0, 1) := by decide +kernel
theorem dX3_isIn_14 : decode cX3_isIn 14 = .ok (.ireturn, 1) := by decide +kernel
theorem dX3_isInOrNone_0 : decode cX3_isInOrNone 0 = .ok (.iload_n 0, 1) := by decide +kernel
theorem dX3_isInOrNone_1 : decode cX3_isInOrNone 1 = .ok (.iconst (-1), 1) := by decide +kernel
theorem dX3_isInOrNone_2 : decode cX3_isInOrNone 2 = .ok (.if_icmp .eq 11, 3) := by decide +kernel
theorem dX3_isInOrNone_5 : decode cX3_isInOrNone 5 = .ok (.iload_n 0, 1) := by decide +kernel
theorem dX3_isInOrNone_6 : decode cX3_isInOrNone 6 = .ok (.iload_n 1, 1) := by decide +kernel
theorem dX3_isInOrNone_7 : decode cX3_isInOrNone 7 = .ok (.invokestatic 66, 3) := by decide +kernel
theorem dX3_isInOrNone_10 : decode cX3_isInOrNone 10 = .ok (.ifCond .eq 7, 3) := by decide +kernel
theorem dX3_isInOrNone_13 : decode cX3_isInOrNone 13 = .ok (.iconst 1, 1) := by decide +kernel
theorem dX3_isInOrNone_14 : decode cX3_isInOrNone 14 = .ok (.goto 4, 3) := by decide +kernel
theorem dX3_isInOrNone_17 : decode cX3_isInOrNone 17 = .ok (.iconst 0, 1) := by decide +kernel
theorem dX3_isInOrNone_18 : decode cX3_isInOrNone 18 = .ok (.ireturn, 1) := by decide +kernel
theorem dX3_isCalendarHour_0 : decode cX3_isCalendarHour 0 = .ok (.iload_n 0, 1) := by decide +kernel
theorem dX3_isCalendarHour_1 : decode cX3_isCalendarHour 1 = .ok (.ifCond .lt 14, 3) := by decide +kernel
theorem dX3_isCalendarHour_4 : decode cX3_isCalendarHour 4 = .ok (.iload_n 0, 1) := by decide +kernel
theorem dX3_isCalendarHour_5 : decode cX3_isCalendarHour 5 = .ok (.sipush 1003, 3) := by decide +kernel
theorem dX3_isCalendarHour_8 : decode cX3_isCalendarHour 8 = .ok (.if_icmp .gt 7, 3) := by decide +kernel
theorem dX3_isCalendarHour_11 : decode cX3_isCalendarHour 11 = .ok (.iconst 1, 1) := by decide +kernel
theorem dX3_isCalendarHour_12 : decode cX3_isCalendarHour 12 = .ok (.goto 4, 3) := by decide +kernel
theorem dX3_isCalendarHour_15 : decode cX3_isCalendarHour 15 = .ok (.iconst 0, 1) := by decide +kernel
theorem dX3_isCalendarHour_16 : decode cX3_isCalendarHour 16 = .ok (.ireturn, 1) := by decide +kernel
theorem dX3_howMany_0 : decode cX3_howMany 0 = .ok (.iload_n 0, 1) := by decide +kernel
theorem dX3_howMany_1 : decode cX3_howMany 1 = .ok (.tableswitch 34 0 2 #[27, 29, 31], 27) := by decide +kernel
theorem dX3_howMany_28 : decode cX3_howMany 28 = .ok (.iconst 4, 1) := by decide +kernel
theorem dX3_howMany_29 : decode cX3_howMany 29 = .ok (.ireturn, 1) := by decide +kernel
theorem dX3_howMany_30 : decode cX3_howMany 30 = .ok (.iconst 4, 1) := by decide +kernel
theorem dX3_howMany_31 : decode cX3_howMany 31 = .ok (.ireturn, 1) := by decide +kernel
theorem dX3_howMany_32 : decode cX3_howMany 32 = .ok (.bipush 6, 2) := by decide +kernel
theorem dX3_howMany_34 : decode cX3_howMany 34 = .ok (.ireturn, 1) := by decide +kernel
theorem dX3_howMany_35 : decode cX3_howMany 35 = .ok (.iconst 4, 1) := by decide +kernel
theorem dX3_howMany_36 : decode cX3_howMany 36 = .ok (.ireturn, 1) := by decide +kernel
theorem dX3_interpreterAt_0 : decode cX3_interpreterAt 0 = .ok (.iload_n 1, 1) := by decide +kernel
theorem dX3_interpreterAt_1 : decode cX3_interpreterAt 1 = .ok (.ifCond .lt 21, 3) := by decide +kernel
theorem dX3_interpreterAt_4 : decode cX3_interpreterAt 4 = .ok (.iload_n 1, 1) := by decide +kernel
theorem dX3_interpreterAt_5 : decode cX3_interpreterAt 5 = .ok (.aload_n 0, 1) := by decide +kernel
theorem dX3_interpreterAt_6 : decode cX3_interpreterAt 6 = .ok (.getfield 11, 3) := by decide +kernel
theorem dX3_interpreterAt_9 : decode cX3_interpreterAt 9 = .ok (.arraylength, 1) := by decide +kernel
theorem dX3_interpreterAt_10 : decode cX3_interpreterAt 10 = .ok (.if_icmp .ge 12, 3) := by decide +kernel
theorem dX3_interpreterAt_13 : decode cX3_interpreterAt 13 = .ok (.aload_n 0, 1) := by decide +kernel
theorem dX3_interpreterAt_14 : decode cX3_interpreterAt 14 = .ok (.getfield 11, 3) := by decide +kernel
theorem dX3_interpreterAt_17 : decode cX3_interpreterAt 17 = .ok (.iload_n 1, 1) := by decide +kernel
theorem dX3_interpreterAt_18 : decode cX3_interpreterAt 18 = .ok (.aaload, 1) := by decide +kernel
theorem dX3_interpreterAt_19 : decode cX3_interpreterAt 19 = .ok (.goto 4, 3) := by decide +kernel
theorem dX3_interpreterAt_22 : decode cX3_interpreterAt 22 = .ok (.aconst_null, 1) := by decide +kernel
theorem dX3_interpreterAt_23 : decode cX3_interpreterAt 23 = .ok (.areturn, 1) := by decide +kernel
theorem dX3_matterAt_0 : decode cX3_matterAt 0 = .ok (.iload_n 1, 1) := by decide +kernel
theorem dX3_matterAt_1 : decode cX3_matterAt 1 = .ok (.ifCond .lt 29, 3) := by decide +kernel
theorem dX3_matterAt_4 : decode cX3_matterAt 4 = .ok (.iload_n 1, 1) := by decide +kernel
theorem dX3_matterAt_5 : decode cX3_matterAt 5 = .ok (.aload_n 0, 1) := by decide +kernel
theorem dX3_matterAt_6 : decode cX3_matterAt 6 = .ok (.getfield 31, 3) := by decide +kernel
theorem dX3_matterAt_9 : decode cX3_matterAt 9 = .ok (.if_icmp .ge 21, 3) := by decide +kernel
theorem dX3_matterAt_12 : decode cX3_matterAt 12 = .ok (.iload_n 1, 1) := by decide +kernel
theorem dX3_matterAt_13 : decode cX3_matterAt 13 = .ok (.aload_n 0, 1) := by decide +kernel
theorem dX3_matterAt_14 : decode cX3_matterAt 14 = .ok (.getfield 21, 3) := by decide +kernel
theorem dX3_matterAt_17 : decode cX3_matterAt 17 = .ok (.arraylength, 1) := by decide +kernel
theorem dX3_matterAt_18 : decode cX3_matterAt 18 = .ok (.if_icmp .ge 12, 3) := by decide +kernel
theorem dX3_matterAt_21 : decode cX3_matterAt 21 = .ok (.aload_n 0, 1) := by decide +kernel
theorem dX3_matterAt_22 : decode cX3_matterAt 22 = .ok (.getfield 21, 3) := by decide +kernel
theorem dX3_matterAt_25 : decode cX3_matterAt 25 = .ok (.iload_n 1, 1) := by decide +kernel
theorem dX3_matterAt_26 : decode cX3_matterAt 26 = .ok (.aaload, 1) := by decide +kernel
theorem dX3_matterAt_27 : decode cX3_matterAt 27 = .ok (.goto 4, 3) := by decide +kernel
theorem dX3_matterAt_30 : decode cX3_matterAt 30 = .ok (.aconst_null, 1) := by decide +kernel
theorem dX3_matterAt_31 : decode cX3_matterAt 31 = .ok (.areturn, 1) := by decide +kernel
theorem dX3_hearingAt_0 : decode cX3_hearingAt 0 = .ok (.iload_n 1, 1) := by decide +kernel
theorem dX3_hearingAt_1 : decode cX3_hearingAt 1 = .ok (.ifCond .lt 29, 3) := by decide +kernel
theorem dX3_hearingAt_4 : decode cX3_hearingAt 4 = .ok (.iload_n 1, 1) := by decide +kernel
theorem dX3_hearingAt_5 : decode cX3_hearingAt 5 = .ok (.aload_n 0, 1) := by decide +kernel
theorem dX3_hearingAt_6 : decode cX3_hearingAt 6 = .ok (.getfield 35, 3) := by decide +kernel
theorem dX3_hearingAt_9 : decode cX3_hearingAt 9 = .ok (.if_icmp .ge 21, 3) := by decide +kernel
theorem dX3_hearingAt_12 : decode cX3_hearingAt 12 = .ok (.iload_n 1, 1) := by decide +kernel
theorem dX3_hearingAt_13 : decode cX3_hearingAt 13 = .ok (.aload_n 0, 1) := by decide +kernel
theorem dX3_hearingAt_14 : decode cX3_hearingAt 14 = .ok (.getfield 27, 3) := by decide +kernel
theorem dX3_hearingAt_17 : decode cX3_hearingAt 17 = .ok (.arraylength, 1) := by decide +kernel
theorem dX3_hearingAt_18 : decode cX3_hearingAt 18 = .ok (.if_icmp .ge 12, 3) := by decide +kernel
theorem dX3_hearingAt_21 : decode cX3_hearingAt 21 = .ok (.aload_n 0, 1) := by decide +kernel
theorem dX3_hearingAt_22 : decode cX3_hearingAt 22 = .ok (.getfield 27, 3) := by decide +kernel
theorem dX3_hearingAt_25 : decode cX3_hearingAt 25 = .ok (.iload_n 1, 1) := by decide +kernel
theorem dX3_hearingAt_26 : decode cX3_hearingAt 26 = .ok (.aaload, 1) := by decide +kernel
theorem dX3_hearingAt_27 : decode cX3_hearingAt 27 = .ok (.goto 4, 3) := by decide +kernel
theorem dX3_hearingAt_30 : decode cX3_hearingAt 30 = .ok (.aconst_null, 1) := by decide +kernel
theorem dX3_hearingAt_31 : decode cX3_hearingAt 31 = .ok (.areturn, 1) := by decide +kernel
theorem dX3_isToBegin_0 : decode cX3_isToBegin 0 = .ok (.aload_n 1, 1) := by decide +kernel
theorem dX3_isToBegin_1 : decode cX3_isToBegin 1 = .ok (.getfield 178, 3) := by decide +kernel
theorem dX3_isToBegin_4 : decode cX3_isToBegin 4 = .ok (.ifCond .ne 18, 3) := by decide +kernel
theorem dX3_isToBegin_7 : decode cX3_isToBegin 7 = .ok (.aload_n 1, 1) := by decide +kernel
theorem dX3_isToBegin_8 : decode cX3_isToBegin 8 = .ok (.getfield 189, 3) := by decide +kernel
theorem dX3_isToBegin_11 : decode cX3_isToBegin 11 = .ok (.aload_n 0, 1) := by decide +kernel
theorem dX3_isToBegin_12 : decode cX3_isToBegin 12 = .ok (.getfield 38, 3) := by decide +kernel
theorem dX3_isToBegin_15 : decode cX3_isToBegin 15 = .ok (.if_icmp .le 7, 3) := by decide +kernel
theorem dX3_isToBegin_18 : decode cX3_isToBegin 18 = .ok (.iconst 1, 1) := by decide +kernel
theorem dX3_isToBegin_19 : decode cX3_isToBegin 19 = .ok (.goto 4, 3) := by decide +kernel
theorem dX3_isToBegin_22 : decode cX3_isToBegin 22 = .ok (.iconst 0, 1) := by decide +kernel
theorem dX3_isToBegin_23 : decode cX3_isToBegin 23 = .ok (.ireturn, 1) := by decide +kernel
theorem dX3_isAsNeeded_0 : decode cX3_isAsNeeded 0 = .ok (.aload_n 0, 1) := by decide +kernel
theorem dX3_isAsNeeded_1 : decode cX3_isAsNeeded 1 = .ok (.iload_n 2, 1) := by decide +kernel
theorem dX3_isAsNeeded_2 : decode cX3_isAsNeeded 2 = .ok (.invokevirtual 42, 3) := by decide +kernel
theorem dX3_isAsNeeded_5 : decode cX3_isAsNeeded 5 = .ok (.astore_n 3, 1) := by decide +kernel
theorem dX3_isAsNeeded_6 : decode cX3_isAsNeeded 6 = .ok (.aload_n 1, 1) := by decide +kernel
theorem dX3_isAsNeeded_7 : decode cX3_isAsNeeded 7 = .ok (.getfield 233, 3) := by decide +kernel
theorem dX3_isAsNeeded_10 : decode cX3_isAsNeeded 10 = .ok (.iconst (-1), 1) := by decide +kernel
theorem dX3_isAsNeeded_11 : decode cX3_isAsNeeded 11 = .ok (.if_icmp .eq 7, 3) := by decide +kernel
theorem dX3_isAsNeeded_14 : decode cX3_isAsNeeded 14 = .ok (.aload_n 3, 1) := by decide +kernel
theorem dX3_isAsNeeded_15 : decode cX3_isAsNeeded 15 = .ok (.ifnonnull 21, 3) := by decide +kernel
theorem dX3_isAsNeeded_18 : decode cX3_isAsNeeded 18 = .ok (.aload_n 1, 1) := by decide +kernel
theorem dX3_isAsNeeded_19 : decode cX3_isAsNeeded 19 = .ok (.getfield 233, 3) := by decide +kernel
theorem dX3_isAsNeeded_22 : decode cX3_isAsNeeded 22 = .ok (.iconst (-1), 1) := by decide +kernel
theorem dX3_isAsNeeded_23 : decode cX3_isAsNeeded 23 = .ok (.if_icmp .ne 11, 3) := by decide +kernel
theorem dX3_isAsNeeded_26 : decode cX3_isAsNeeded 26 = .ok (.aload_n 3, 1) := by decide +kernel
theorem dX3_isAsNeeded_27 : decode cX3_isAsNeeded 27 = .ok (.ifnonnull 7, 3) := by decide +kernel
theorem dX3_isAsNeeded_30 : decode cX3_isAsNeeded 30 = .ok (.iconst 1, 1) := by decide +kernel
theorem dX3_isAsNeeded_31 : decode cX3_isAsNeeded 31 = .ok (.goto 4, 3) := by decide +kernel
theorem dX3_isAsNeeded_34 : decode cX3_isAsNeeded 34 = .ok (.iconst 0, 1) := by decide +kernel
theorem dX3_isAsNeeded_35 : decode cX3_isAsNeeded 35 = .ok (.ireturn, 1) := by decide +kernel
theorem dX3_isAsNeeded_36 : decode cX3_isAsNeeded 36 = .ok (.aload_n 3, 1) := by decide +kernel
theorem dX3_isAsNeeded_37 : decode cX3_isAsNeeded 37 = .ok (.aload_n 1, 1) := by decide +kernel
theorem dX3_isAsNeeded_38 : decode cX3_isAsNeeded 38 = .ok (.getfield 233, 3) := by decide +kernel
theorem dX3_isAsNeeded_41 : decode cX3_isAsNeeded 41 = .ok (.invokevirtual 257, 3) := by decide +kernel
theorem dX3_isAsNeeded_44 : decode cX3_isAsNeeded 44 = .ok (.ireturn, 1) := by decide +kernel
theorem dX3_clashReason_0 : decode cX3_clashReason 0 = .ok (.iconst 0, 1) := by decide +kernel
theorem dX3_clashReason_1 : decode cX3_clashReason 1 = .ok (.istore 7, 2) := by decide +kernel
theorem dX3_clashReason_3 : decode cX3_clashReason 3 = .ok (.iconst 0, 1) := by decide +kernel
theorem dX3_clashReason_4 : decode cX3_clashReason 4 = .ok (.istore 8, 2) := by decide +kernel
theorem dX3_clashReason_6 : decode cX3_clashReason 6 = .ok (.iload 8, 2) := by decide +kernel
theorem dX3_clashReason_8 : decode cX3_clashReason 8 = .ok (.aload_n 0, 1) := by decide +kernel
theorem dX3_clashReason_9 : decode cX3_clashReason 9 = .ok (.getfield 35, 3) := by decide +kernel
theorem dX3_clashReason_12 : decode cX3_clashReason 12 = .ok (.if_icmp .ge 72, 3) := by decide +kernel
theorem dX3_clashReason_15 : decode cX3_clashReason 15 = .ok (.aload_n 0, 1) := by decide +kernel
theorem dX3_clashReason_16 : decode cX3_clashReason 16 = .ok (.iload 8, 2) := by decide +kernel
theorem dX3_clashReason_18 : decode cX3_clashReason 18 = .ok (.invokevirtual 149, 3) := by decide +kernel
theorem dX3_clashReason_21 : decode cX3_clashReason 21 = .ok (.astore 9, 2) := by decide +kernel
theorem dX3_clashReason_23 : decode cX3_clashReason 23 = .ok (.aload 9, 2) := by decide +kernel
theorem dX3_clashReason_25 : decode cX3_clashReason 25 = .ok (.ifnull 53, 3) := by decide +kernel
theorem dX3_clashReason_28 : decode cX3_clashReason 28 = .ok (.aload 9, 2) := by decide +kernel
theorem dX3_clashReason_30 : decode cX3_clashReason 30 = .ok (.aload_n 1, 1) := by decide +kernel
theorem dX3_clashReason_31 : decode cX3_clashReason 31 = .ok (.if_acmp .eq 47, 3) := by decide +kernel
theorem dX3_clashReason_34 : decode cX3_clashReason 34 = .ok (.aload 9, 2) := by decide +kernel
theorem dX3_clashReason_36 : decode cX3_clashReason 36 = .ok (.iload 5, 2) := by decide +kernel
theorem dX3_clashReason_38 : decode cX3_clashReason 38 = .ok (.iload 6, 2) := by decide +kernel
theorem dX3_clashReason_40 : decode cX3_clashReason 40 = .ok (.invokevirtual 218, 3) := by decide +kernel
theorem dX3_clashReason_43 : decode cX3_clashReason 43 = .ok (.ifCond .eq 35, 3) := by decide +kernel
theorem dX3_clashReason_46 : decode cX3_clashReason 46 = .ok (.aload 9, 2) := by decide +kernel
theorem dX3_clashReason_48 : decode cX3_clashReason 48 = .ok (.aload_n 2, 1) := by decide +kernel
theorem dX3_clashReason_49 : decode cX3_clashReason 49 = .ok (.iload_n 3, 1) := by decide +kernel
theorem dX3_clashReason_50 : decode cX3_clashReason 50 = .ok (.iload 4, 2) := by decide +kernel
theorem dX3_clashReason_52 : decode cX3_clashReason 52 = .ok (.invokevirtual 260, 3) := by decide +kernel
theorem dX3_clashReason_55 : decode cX3_clashReason 55 = .ok (.istore 10, 2) := by decide +kernel
theorem dX3_clashReason_57 : decode cX3_clashReason 57 = .ok (.iload 10, 2) := by decide +kernel
theorem dX3_clashReason_59 : decode cX3_clashReason 59 = .ok (.ifCond .eq 19, 3) := by decide +kernel
theorem dX3_clashReason_62 : decode cX3_clashReason 62 = .ok (.iload 7, 2) := by decide +kernel
theorem dX3_clashReason_64 : decode cX3_clashReason 64 = .ok (.ifCond .eq 10, 3) := by decide +kernel
theorem dX3_clashReason_67 : decode cX3_clashReason 67 = .ok (.iload 10, 2) := by decide +kernel
theorem dX3_clashReason_69 : decode cX3_clashReason 69 = .ok (.iload 7, 2) := by decide +kernel
theorem dX3_clashReason_71 : decode cX3_clashReason 71 = .ok (.if_icmp .ge 7, 3) := by decide +kernel
theorem dX3_clashReason_74 : decode cX3_clashReason 74 = .ok (.iload 10, 2) := by decide +kernel
theorem dX3_clashReason_76 : decode cX3_clashReason 76 = .ok (.istore 7, 2) := by decide +kernel
theorem dX3_clashReason_78 : decode cX3_clashReason 78 = .ok (.iinc 8 1, 3) := by decide +kernel
theorem dX3_clashReason_81 : decode cX3_clashReason 81 = .ok (.goto (-75), 3) := by decide +kernel
theorem dX3_clashReason_84 : decode cX3_clashReason 84 = .ok (.iload 7, 2) := by decide +kernel
theorem dX3_clashReason_86 : decode cX3_clashReason 86 = .ok (.ireturn, 1) := by decide +kernel
theorem dX3_put_0 : decode cX3_put 0 = .ok (.aload_n 1, 1) := by decide +kernel
theorem dX3_put_1 : decode cX3_put 1 = .ok (.iload_n 2, 1) := by decide +kernel
theorem dX3_put_2 : decode cX3_put 2 = .ok (.iload_n 3, 1) := by decide +kernel
theorem dX3_put_3 : decode cX3_put 3 = .ok (.iload 4, 2) := by decide +kernel
theorem dX3_put_5 : decode cX3_put 5 = .ok (.invokevirtual 264, 3) := by decide +kernel
theorem dX3_put_8 : decode cX3_put 8 = .ok (.aload_n 0, 1) := by decide +kernel
theorem dX3_put_9 : decode cX3_put 9 = .ok (.iload_n 3, 1) := by decide +kernel
theorem dX3_put_10 : decode cX3_put 10 = .ok (.invokevirtual 42, 3) := by decide +kernel
theorem dX3_put_13 : decode cX3_put 13 = .ok (.astore 5, 2) := by decide +kernel
theorem dX3_put_15 : decode cX3_put 15 = .ok (.iconst 0, 1) := by decide +kernel
theorem dX3_put_16 : decode cX3_put 16 = .ok (.istore 6, 2) := by decide +kernel
theorem dX3_put_18 : decode cX3_put 18 = .ok (.iload 6, 2) := by decide +kernel
theorem dX3_put_20 : decode cX3_put 20 = .ok (.aload_n 1, 1) := by decide +kernel
theorem dX3_put_21 : decode cX3_put 21 = .ok (.getfield 167, 3) := by decide +kernel
theorem dX3_put_24 : decode cX3_put 24 = .ok (.if_icmp .ge 53, 3) := by decide +kernel
theorem dX3_put_27 : decode cX3_put 27 = .ok (.iload 6, 2) := by decide +kernel
theorem dX3_put_29 : decode cX3_put 29 = .ok (.aload_n 1, 1) := by decide +kernel
theorem dX3_put_30 : decode cX3_put 30 = .ok (.getfield 268, 3) := by decide +kernel
theorem dX3_put_33 : decode cX3_put 33 = .ok (.arraylength, 1) := by decide +kernel
theorem dX3_put_34 : decode cX3_put 34 = .ok (.if_icmp .ge 43, 3) := by decide +kernel
theorem dX3_put_37 : decode cX3_put 37 = .ok (.aload_n 1, 1) := by decide +kernel
theorem dX3_put_38 : decode cX3_put 38 = .ok (.getfield 268, 3) := by decide +kernel
theorem dX3_put_41 : decode cX3_put 41 = .ok (.iload 6, 2) := by decide +kernel
theorem dX3_put_43 : decode cX3_put 43 = .ok (.aload 5, 2) := by decide +kernel
theorem dX3_put_45 : decode cX3_put 45 = .ok (.ifnonnull 7, 3) := by decide +kernel
theorem dX3_put_48 : decode cX3_put 48 = .ok (.iconst 0, 1) := by decide +kernel
theorem dX3_put_49 : decode cX3_put 49 = .ok (.goto 21, 3) := by decide +kernel
theorem dX3_put_52 : decode cX3_put 52 = .ok (.aload 5, 2) := by decide +kernel
theorem dX3_put_54 : decode cX3_put 54 = .ok (.iload 4, 2) := by decide +kernel
theorem dX3_put_56 : decode cX3_put 56 = .ok (.iload 6, 2) := by decide +kernel
theorem dX3_put_58 : decode cX3_put 58 = .ok (.iadd, 1) := by decide +kernel
theorem dX3_put_59 : decode cX3_put 59 = .ok (.aload_n 0, 1) := by decide +kernel
theorem dX3_put_60 : decode cX3_put 60 = .ok (.getfield 38, 3) := by decide +kernel
theorem dX3_put_63 : decode cX3_put 63 = .ok (.aload_n 1, 1) := by decide +kernel
theorem dX3_put_64 : decode cX3_put 64 = .ok (.getfield 161, 3) := by decide +kernel
theorem dX3_put_67 : decode cX3_put 67 = .ok (.invokevirtual 272, 3) := by decide +kernel
theorem dX3_put_70 : decode cX3_put 70 = .ok (.iastore, 1) := by decide +kernel
theorem dX3_put_71 : decode cX3_put 71 = .ok (.iinc 6 1, 3) := by decide +kernel
theorem dX3_put_74 : decode cX3_put 74 = .ok (.goto (-56), 3) := by decide +kernel
theorem dX3_put_77 : decode cX3_put 77 = .ok (.aload_n 1, 1) := by decide +kernel
theorem dX3_put_78 : decode cX3_put 78 = .ok (.getfield 161, 3) := by decide +kernel
theorem dX3_put_81 : decode cX3_put 81 = .ok (.dup, 1) := by decide +kernel
theorem dX3_put_82 : decode cX3_put 82 = .ok (.getfield 85, 3) := by decide +kernel
theorem dX3_put_85 : decode cX3_put 85 = .ok (.aload_n 1, 1) := by decide +kernel
theorem dX3_put_86 : decode cX3_put 86 = .ok (.invokevirtual 248, 3) := by decide +kernel
theorem dX3_put_89 : decode cX3_put 89 = .ok (.isub, 1) := by decide +kernel
theorem dX3_put_90 : decode cX3_put 90 = .ok (.putfield 85, 3) := by decide +kernel
theorem dX3_put_93 : decode cX3_put 93 = .ok (.return_, 1) := by decide +kernel
theorem dX3_leave_0 : decode cX3_leave 0 = .ok (.aload_n 1, 1) := by decide +kernel
theorem dX3_leave_1 : decode cX3_leave 1 = .ok (.getfield 189, 3) := by decide +kernel
theorem dX3_leave_4 : decode cX3_leave 4 = .ok (.aload_n 0, 1) := by decide +kernel
theorem dX3_leave_5 : decode cX3_leave 5 = .ok (.getfield 38, 3) := by decide +kernel
theorem dX3_leave_8 : decode cX3_leave 8 = .ok (.isub, 1) := by decide +kernel
theorem dX3_leave_9 : decode cX3_leave 9 = .ok (.bipush 8, 2) := by decide +kernel
theorem dX3_leave_11 : decode cX3_leave 11 = .ok (.if_icmp .lt 20, 3) := by decide +kernel
theorem dX3_leave_14 : decode cX3_leave 14 = .ok (.aload_n 1, 1) := by decide +kernel
theorem dX3_leave_15 : decode cX3_leave 15 = .ok (.getfield 161, 3) := by decide +kernel
theorem dX3_leave_18 : decode cX3_leave 18 = .ok (.dup, 1) := by decide +kernel
theorem dX3_leave_19 : decode cX3_leave 19 = .ok (.getfield 85, 3) := by decide +kernel
theorem dX3_leave_22 : decode cX3_leave 22 = .ok (.aload_n 1, 1) := by decide +kernel
theorem dX3_leave_23 : decode cX3_leave 23 = .ok (.invokevirtual 248, 3) := by decide +kernel
theorem dX3_leave_26 : decode cX3_leave 26 = .ok (.iadd, 1) := by decide +kernel
theorem dX3_leave_27 : decode cX3_leave 27 = .ok (.putfield 85, 3) := by decide +kernel
theorem dX3_leave_30 : decode cX3_leave 30 = .ok (.return_, 1) := by decide +kernel
theorem dX3_leave_31 : decode cX3_leave 31 = .ok (.aload_n 0, 1) := by decide +kernel
theorem dX3_leave_32 : decode cX3_leave 32 = .ok (.aload_n 1, 1) := by decide +kernel
theorem dX3_leave_33 : decode cX3_leave 33 = .ok (.getfield 242, 3) := by decide +kernel
theorem dX3_leave_36 : decode cX3_leave 36 = .ok (.invokevirtual 42, 3) := by decide +kernel
theorem dX3_leave_39 : decode cX3_leave 39 = .ok (.astore_n 2, 1) := by decide +kernel
theorem dX3_leave_40 : decode cX3_leave 40 = .ok (.iconst 0, 1) := by decide +kernel
theorem dX3_leave_41 : decode cX3_leave 41 = .ok (.istore_n 3, 1) := by decide +kernel
theorem dX3_leave_42 : decode cX3_leave 42 = .ok (.aload_n 2, 1) := by decide +kernel
theorem dX3_leave_43 : decode cX3_leave 43 = .ok (.ifnull 46, 3) := by decide +kernel
theorem dX3_leave_46 : decode cX3_leave 46 = .ok (.iload_n 3, 1) := by decide +kernel
theorem dX3_leave_47 : decode cX3_leave 47 = .ok (.aload_n 1, 1) := by decide +kernel
theorem dX3_leave_48 : decode cX3_leave 48 = .ok (.getfield 167, 3) := by decide +kernel
theorem dX3_leave_51 : decode cX3_leave 51 = .ok (.if_icmp .ge 38, 3) := by decide +kernel
theorem dX3_leave_54 : decode cX3_leave 54 = .ok (.iload_n 3, 1) := by decide +kernel
theorem dX3_leave_55 : decode cX3_leave 55 = .ok (.aload_n 1, 1) := by decide +kernel
theorem dX3_leave_56 : decode cX3_leave 56 = .ok (.getfield 268, 3) := by decide +kernel
theorem dX3_leave_59 : decode cX3_leave 59 = .ok (.arraylength, 1) := by decide +kernel
theorem dX3_leave_60 : decode cX3_leave 60 = .ok (.if_icmp .ge 29, 3) := by decide +kernel
theorem dX3_leave_63 : decode cX3_leave 63 = .ok (.aload_n 2, 1) := by decide +kernel
theorem dX3_leave_64 : decode cX3_leave 64 = .ok (.aload_n 1, 1) := by decide +kernel
theorem dX3_leave_65 : decode cX3_leave 65 = .ok (.getfield 189, 3) := by decide +kernel
theorem dX3_leave_68 : decode cX3_leave 68 = .ok (.iload_n 3, 1) := by decide +kernel
theorem dX3_leave_69 : decode cX3_leave 69 = .ok (.iadd, 1) := by decide +kernel
theorem dX3_leave_70 : decode cX3_leave 70 = .ok (.aload_n 1, 1) := by decide +kernel
theorem dX3_leave_71 : decode cX3_leave 71 = .ok (.getfield 161, 3) := by decide +kernel
theorem dX3_leave_74 : decode cX3_leave 74 = .ok (.aload_n 1, 1) := by decide +kernel
theorem dX3_leave_75 : decode cX3_leave 75 = .ok (.getfield 268, 3) := by decide +kernel
theorem dX3_leave_78 : decode cX3_leave 78 = .ok (.iload_n 3, 1) := by decide +kernel
theorem dX3_leave_79 : decode cX3_leave 79 = .ok (.iaload, 1) := by decide +kernel
theorem dX3_leave_80 : decode cX3_leave 80 = .ok (.invokevirtual 276, 3) := by decide +kernel
theorem dX3_leave_83 : decode cX3_leave 83 = .ok (.iinc 3 1, 3) := by decide +kernel
theorem dX3_leave_86 : decode cX3_leave 86 = .ok (.goto (-44), 3) := by decide +kernel
theorem dX3_leave_89 : decode cX3_leave 89 = .ok (.return_, 1) := by decide +kernel
theorem dX3_dropAllOf_0 : decode cX3_dropAllOf 0 = .ok (.iconst 0, 1) := by decide +kernel
theorem dX3_dropAllOf_1 : decode cX3_dropAllOf 1 = .ok (.istore_n 2, 1) := by decide +kernel
theorem dX3_dropAllOf_2 : decode cX3_dropAllOf 2 = .ok (.iconst 0, 1) := by decide +kernel
theorem dX3_dropAllOf_3 : decode cX3_dropAllOf 3 = .ok (.istore_n 3, 1) := by decide +kernel
theorem dX3_dropAllOf_4 : decode cX3_dropAllOf 4 = .ok (.iload_n 3, 1) := by decide +kernel
theorem dX3_dropAllOf_5 : decode cX3_dropAllOf 5 = .ok (.aload_n 0, 1) := by decide +kernel
theorem dX3_dropAllOf_6 : decode cX3_dropAllOf 6 = .ok (.getfield 35, 3) := by decide +kernel
theorem dX3_dropAllOf_9 : decode cX3_dropAllOf 9 = .ok (.if_icmp .ge 62, 3) := by decide +kernel
theorem dX3_dropAllOf_12 : decode cX3_dropAllOf 12 = .ok (.aload_n 0, 1) := by decide +kernel
theorem dX3_dropAllOf_13 : decode cX3_dropAllOf 13 = .ok (.iload_n 3, 1) := by decide +kernel
theorem dX3_dropAllOf_14 : decode cX3_dropAllOf 14 = .ok (.invokevirtual 149, 3) := by decide +kernel
theorem dX3_dropAllOf_17 : decode cX3_dropAllOf 17 = .ok (.astore 4, 2) := by decide +kernel
theorem dX3_dropAllOf_19 : decode cX3_dropAllOf 19 = .ok (.aload 4, 2) := by decide +kernel
theorem dX3_dropAllOf_21 : decode cX3_dropAllOf 21 = .ok (.ifnull 44, 3) := by decide +kernel
theorem dX3_dropAllOf_24 : decode cX3_dropAllOf 24 = .ok (.aload 4, 2) := by decide +kernel
theorem dX3_dropAllOf_26 : decode cX3_dropAllOf 26 = .ok (.getfield 161, 3) := by decide +kernel
theorem dX3_dropAllOf_29 : decode cX3_dropAllOf 29 = .ok (.aload_n 1, 1) := by decide +kernel
theorem dX3_dropAllOf_30 : decode cX3_dropAllOf 30 = .ok (.if_acmp .ne 35, 3) := by decide +kernel
theorem dX3_dropAllOf_33 : decode cX3_dropAllOf 33 = .ok (.aload 4, 2) := by decide +kernel
theorem dX3_dropAllOf_35 : decode cX3_dropAllOf 35 = .ok (.getfield 178, 3) := by decide +kernel
theorem dX3_dropAllOf_38 : decode cX3_dropAllOf 38 = .ok (.ifCond .ne 27, 3) := by decide +kernel
theorem dX3_dropAllOf_41 : decode cX3_dropAllOf 41 = .ok (.aload_n 0, 1) := by decide +kernel
theorem dX3_dropAllOf_42 : decode cX3_dropAllOf 42 = .ok (.aload 4, 2) := by decide +kernel
theorem dX3_dropAllOf_44 : decode cX3_dropAllOf 44 = .ok (.invokevirtual 157, 3) := by decide +kernel
theorem dX3_dropAllOf_47 : decode cX3_dropAllOf 47 = .ok (.ifCond .eq 9, 3) := by decide +kernel
theorem dX3_dropAllOf_50 : decode cX3_dropAllOf 50 = .ok (.aload_n 0, 1) := by decide +kernel
theorem dX3_dropAllOf_51 : decode cX3_dropAllOf 51 = .ok (.aload 4, 2) := by decide +kernel
theorem dX3_dropAllOf_53 : decode cX3_dropAllOf 53 = .ok (.invokevirtual 170, 3) := by decide +kernel
theorem dX3_dropAllOf_56 : decode cX3_dropAllOf 56 = .ok (.aload 4, 2) := by decide +kernel
theorem dX3_dropAllOf_58 : decode cX3_dropAllOf 58 = .ok (.iconst 3, 1) := by decide +kernel
theorem dX3_dropAllOf_59 : decode cX3_dropAllOf 59 = .ok (.putfield 178, 3) := by decide +kernel
theorem dX3_dropAllOf_62 : decode cX3_dropAllOf 62 = .ok (.iinc 2 1, 3) := by decide +kernel
theorem dX3_dropAllOf_65 : decode cX3_dropAllOf 65 = .ok (.iinc 3 1, 3) := by decide +kernel
theorem dX3_dropAllOf_68 : decode cX3_dropAllOf 68 = .ok (.goto (-64), 3) := by decide +kernel
theorem dX3_dropAllOf_71 : decode cX3_dropAllOf 71 = .ok (.iload_n 2, 1) := by decide +kernel
theorem dX3_dropAllOf_72 : decode cX3_dropAllOf 72 = .ok (.ireturn, 1) := by decide +kernel
theorem dX3_endHearings_0 : decode cX3_endHearings 0 = .ok (.iconst 0, 1) := by decide +kernel
theorem dX3_endHearings_1 : decode cX3_endHearings 1 = .ok (.istore_n 1, 1) := by decide +kernel
theorem dX3_endHearings_2 : decode cX3_endHearings 2 = .ok (.iconst 0, 1) := by decide +kernel
theorem dX3_endHearings_3 : decode cX3_endHearings 3 = .ok (.istore_n 2, 1) := by decide +kernel
theorem dX3_endHearings_4 : decode cX3_endHearings 4 = .ok (.iload_n 2, 1) := by decide +kernel
theorem dX3_endHearings_5 : decode cX3_endHearings 5 = .ok (.aload_n 0, 1) := by decide +kernel
theorem dX3_endHearings_6 : decode cX3_endHearings 6 = .ok (.getfield 35, 3) := by decide +kernel
theorem dX3_endHearings_9 : decode cX3_endHearings 9 = .ok (.if_icmp .ge 57, 3) := by decide +kernel
theorem dX3_endHearings_12 : decode cX3_endHearings 12 = .ok (.aload_n 0, 1) := by decide +kernel
theorem dX3_endHearings_13 : decode cX3_endHearings 13 = .ok (.iload_n 2, 1) := by decide +kernel
theorem dX3_endHearings_14 : decode cX3_endHearings 14 = .ok (.invokevirtual 149, 3) := by decide +kernel
theorem dX3_endHearings_17 : decode cX3_endHearings 17 = .ok (.astore_n 3, 1) := by decide +kernel
theorem dX3_endHearings_18 : decode cX3_endHearings 18 = .ok (.aload_n 3, 1) := by decide +kernel
theorem dX3_endHearings_19 : decode cX3_endHearings 19 = .ok (.ifnull 41, 3) := by decide +kernel
theorem dX3_endHearings_22 : decode cX3_endHearings 22 = .ok (.aload_n 3, 1) := by decide +kernel
theorem dX3_endHearings_23 : decode cX3_endHearings 23 = .ok (.getfield 178, 3) := by decide +kernel
theorem dX3_endHearings_26 : decode cX3_endHearings 26 = .ok (.ifCond .ne 34, 3) := by decide +kernel
theorem dX3_endHearings_29 : decode cX3_endHearings 29 = .ok (.aload_n 3, 1) := by decide +kernel
theorem dX3_endHearings_30 : decode cX3_endHearings 30 = .ok (.getfield 189, 3) := by decide +kernel
theorem dX3_endHearings_33 : decode cX3_endHearings 33 = .ok (.aload_n 3, 1) := by decide +kernel
theorem dX3_endHearings_34 : decode cX3_endHearings 34 = .ok (.getfield 167, 3) := by decide +kernel
theorem dX3_endHearings_37 : decode cX3_endHearings 37 = .ok (.iadd, 1) := by decide +kernel
theorem dX3_endHearings_38 : decode cX3_endHearings 38 = .ok (.aload_n 0, 1) := by decide +kernel
theorem dX3_endHearings_39 : decode cX3_endHearings 39 = .ok (.getfield 38, 3) := by decide +kernel
theorem dX3_endHearings_42 : decode cX3_endHearings 42 = .ok (.if_icmp .gt 18, 3) := by decide +kernel
theorem dX3_endHearings_45 : decode cX3_endHearings 45 = .ok (.aload_n 3, 1) := by decide +kernel
theorem dX3_endHearings_46 : decode cX3_endHearings 46 = .ok (.invokevirtual 279, 3) := by decide +kernel
theorem dX3_endHearings_49 : decode cX3_endHearings 49 = .ok (.aload_n 3, 1) := by decide +kernel
theorem dX3_endHearings_50 : decode cX3_endHearings 50 = .ok (.getfield 178, 3) := by decide +kernel
theorem dX3_endHearings_53 : decode cX3_endHearings 53 = .ok (.iconst 1, 1) := by decide +kernel
theorem dX3_endHearings_54 : decode cX3_endHearings 54 = .ok (.if_icmp .ne 6, 3) := by decide +kernel
theorem dX3_endHearings_57 : decode cX3_endHearings 57 = .ok (.iinc 1 1, 3) := by decide +kernel
theorem dX3_endHearings_60 : decode cX3_endHearings 60 = .ok (.iinc 2 1, 3) := by decide +kernel
theorem dX3_endHearings_63 : decode cX3_endHearings 63 = .ok (.goto (-59), 3) := by decide +kernel
theorem dX3_endHearings_66 : decode cX3_endHearings 66 = .ok (.iload_n 1, 1) := by decide +kernel
theorem dX3_endHearings_67 : decode cX3_endHearings 67 = .ok (.ireturn, 1) := by decide +kernel
theorem dX3_runTerms_0 : decode cX3_runTerms 0 = .ok (.iconst 0, 1) := by decide +kernel
theorem dX3_runTerms_1 : decode cX3_runTerms 1 = .ok (.istore_n 1, 1) := by decide +kernel
theorem dX3_runTerms_2 : decode cX3_runTerms 2 = .ok (.iload_n 1, 1) := by decide +kernel
theorem dX3_runTerms_3 : decode cX3_runTerms 3 = .ok (.aload_n 0, 1) := by decide +kernel
theorem dX3_runTerms_4 : decode cX3_runTerms 4 = .ok (.getfield 31, 3) := by decide +kernel
theorem dX3_runTerms_7 : decode cX3_runTerms 7 = .ok (.if_icmp .ge 27, 3) := by decide +kernel
theorem dX3_runTerms_10 : decode cX3_runTerms 10 = .ok (.aload_n 0, 1) := by decide +kernel
theorem dX3_runTerms_11 : decode cX3_runTerms 11 = .ok (.iload_n 1, 1) := by decide +kernel
theorem dX3_runTerms_12 : decode cX3_runTerms 12 = .ok (.invokevirtual 95, 3) := by decide +kernel
theorem dX3_runTerms_15 : decode cX3_runTerms 15 = .ok (.astore_n 2, 1) := by decide +kernel
theorem dX3_runTerms_16 : decode cX3_runTerms 16 = .ok (.aload_n 2, 1) := by decide +kernel
theorem dX3_runTerms_17 : decode cX3_runTerms 17 = .ok (.ifnull 11, 3) := by decide +kernel
theorem dX3_runTerms_20 : decode cX3_runTerms 20 = .ok (.aload_n 2, 1) := by decide +kernel
theorem dX3_runTerms_21 : decode cX3_runTerms 21 = .ok (.aload_n 0, 1) := by decide +kernel
theorem dX3_runTerms_22 : decode cX3_runTerms 22 = .ok (.getfield 38, 3) := by decide +kernel
theorem dX3_runTerms_25 : decode cX3_runTerms 25 = .ok (.invokevirtual 281, 3) := by decide +kernel
theorem dX3_runTerms_28 : decode cX3_runTerms 28 = .ok (.iinc 1 1, 3) := by decide +kernel
theorem dX3_runTerms_31 : decode cX3_runTerms 31 = .ok (.goto (-29), 3) := by decide +kernel
theorem dX3_runTerms_34 : decode cX3_runTerms 34 = .ok (.return_, 1) := by decide +kernel
theorem dX3_feeFor_0 : decode cX3_feeFor 0 = .ok (.aload_n 1, 1) := by decide +kernel
theorem dX3_feeFor_1 : decode cX3_feeFor 1 = .ok (.getfield 227, 3) := by decide +kernel
theorem dX3_feeFor_4 : decode cX3_feeFor 4 = .ok (.ifCond .lt 31, 3) := by decide +kernel
theorem dX3_feeFor_7 : decode cX3_feeFor 7 = .ok (.aload_n 1, 1) := by decide +kernel
theorem dX3_feeFor_8 : decode cX3_feeFor 8 = .ok (.getfield 227, 3) := by decide +kernel
theorem dX3_feeFor_11 : decode cX3_feeFor 11 = .ok (.aload_n 0, 1) := by decide +kernel
theorem dX3_feeFor_12 : decode cX3_feeFor 12 = .ok (.getfield 15, 3) := by decide +kernel
theorem dX3_feeFor_15 : decode cX3_feeFor 15 = .ok (.arraylength, 1) := by decide +kernel
theorem dX3_feeFor_16 : decode cX3_feeFor 16 = .ok (.if_icmp .ge 19, 3) := by decide +kernel
theorem dX3_feeFor_19 : decode cX3_feeFor 19 = .ok (.aload_n 0, 1) := by decide +kernel
theorem dX3_feeFor_20 : decode cX3_feeFor 20 = .ok (.getfield 15, 3) := by decide +kernel
theorem dX3_feeFor_23 : decode cX3_feeFor 23 = .ok (.aload_n 1, 1) := by decide +kernel
theorem dX3_feeFor_24 : decode cX3_feeFor 24 = .ok (.getfield 227, 3) := by decide +kernel
theorem dX3_feeFor_27 : decode cX3_feeFor 27 = .ok (.baload, 1) := by decide +kernel
theorem dX3_feeFor_28 : decode cX3_feeFor 28 = .ok (.ifCond .eq 7, 3) := by decide +kernel
theorem dX3_feeFor_31 : decode cX3_feeFor 31 = .ok (.iconst 1, 1) := by decide +kernel
theorem dX3_feeFor_32 : decode cX3_feeFor 32 = .ok (.goto 4, 3) := by decide +kernel
theorem dX3_feeFor_35 : decode cX3_feeFor 35 = .ok (.iconst 0, 1) := by decide +kernel
theorem dX3_feeFor_36 : decode cX3_feeFor 36 = .ok (.istore_n 3, 1) := by decide +kernel
theorem dX3_feeFor_37 : decode cX3_feeFor 37 = .ok (.iload_n 3, 1) := by decide +kernel
theorem dX3_feeFor_38 : decode cX3_feeFor 38 = .ok (.ifCond .eq 7, 3) := by decide +kernel
theorem dX3_feeFor_41 : decode cX3_feeFor 41 = .ok (.iconst 0, 1) := by decide +kernel
theorem dX3_feeFor_42 : decode cX3_feeFor 42 = .ok (.goto 4, 3) := by decide +kernel
theorem dX3_feeFor_45 : decode cX3_feeFor 45 = .ok (.iload_n 2, 1) := by decide +kernel
theorem dX3_feeFor_46 : decode cX3_feeFor 46 = .ok (.ireturn, 1) := by decide +kernel
theorem dX3_paidHoursOf_0 : decode cX3_paidHoursOf 0 = .ok (.iconst 0, 1) := by decide +kernel
theorem dX3_paidHoursOf_1 : decode cX3_paidHoursOf 1 = .ok (.istore_n 2, 1) := by decide +kernel
theorem dX3_paidHoursOf_2 : decode cX3_paidHoursOf 2 = .ok (.iconst 0, 1) := by decide +kernel
theorem dX3_paidHoursOf_3 : decode cX3_paidHoursOf 3 = .ok (.istore_n 3, 1) := by decide +kernel
theorem dX3_paidHoursOf_4 : decode cX3_paidHoursOf 4 = .ok (.iload_n 3, 1) := by decide +kernel
theorem dX3_paidHoursOf_5 : decode cX3_paidHoursOf 5 = .ok (.aload_n 0, 1) := by decide +kernel
theorem dX3_paidHoursOf_6 : decode cX3_paidHoursOf 6 = .ok (.getfield 11, 3) := by decide +kernel
theorem dX3_paidHoursOf_9 : decode cX3_paidHoursOf 9 = .ok (.arraylength, 1) := by decide +kernel
theorem dX3_paidHoursOf_10 : decode cX3_paidHoursOf 10 = .ok (.if_icmp .ge 34, 3) := by decide +kernel
theorem dX3_paidHoursOf_13 : decode cX3_paidHoursOf 13 = .ok (.aload_n 0, 1) := by decide +kernel
theorem dX3_paidHoursOf_14 : decode cX3_paidHoursOf 14 = .ok (.iload_n 3, 1) := by decide +kernel
theorem dX3_paidHoursOf_15 : decode cX3_paidHoursOf 15 = .ok (.invokevirtual 42, 3) := by decide +kernel
theorem dX3_paidHoursOf_18 : decode cX3_paidHoursOf 18 = .ok (.astore 4, 2) := by decide +kernel
theorem dX3_paidHoursOf_20 : decode cX3_paidHoursOf 20 = .ok (.aload 4, 2) := by decide +kernel
theorem dX3_paidHoursOf_22 : decode cX3_paidHoursOf 22 = .ok (.ifnull 16, 3) := by decide +kernel
theorem dX3_paidHoursOf_25 : decode cX3_paidHoursOf 25 = .ok (.iload_n 2, 1) := by decide +kernel
theorem dX3_paidHoursOf_26 : decode cX3_paidHoursOf 26 = .ok (.aload 4, 2) := by decide +kernel
theorem dX3_paidHoursOf_28 : decode cX3_paidHoursOf 28 = .ok (.aload_n 1, 1) := by decide +kernel
theorem dX3_paidHoursOf_29 : decode cX3_paidHoursOf 29 = .ok (.aload_n 0, 1) := by decide +kernel
theorem dX3_paidHoursOf_30 : decode cX3_paidHoursOf 30 = .ok (.getfield 38, 3) := by decide +kernel
theorem dX3_paidHoursOf_33 : decode cX3_paidHoursOf 33 = .ok (.invokevirtual 284, 3) := by decide +kernel
theorem dX3_paidHoursOf_36 : decode cX3_paidHoursOf 36 = .ok (.iadd, 1) := by decide +kernel
theorem dX3_paidHoursOf_37 : decode cX3_paidHoursOf 37 = .ok (.istore_n 2, 1) := by decide +kernel
theorem dX3_paidHoursOf_38 : decode cX3_paidHoursOf 38 = .ok (.iinc 3 1, 3) := by decide +kernel
theorem dX3_paidHoursOf_41 : decode cX3_paidHoursOf 41 = .ok (.goto (-37), 3) := by decide +kernel
theorem dX3_paidHoursOf_44 : decode cX3_paidHoursOf 44 = .ok (.iload_n 2, 1) := by decide +kernel
theorem dX3_paidHoursOf_45 : decode cX3_paidHoursOf 45 = .ok (.ireturn, 1) := by decide +kernel
theorem dL_cell_0 : decode cL_cell 0 = .ok (.iload_n 1, 1) := by decide +kernel
theorem dL_cell_1 : decode cL_cell 1 = .ok (.aload_n 0, 1) := by decide +kernel
theorem dL_cell_2 : decode cL_cell 2 = .ok (.arraylength, 1) := by decide +kernel
theorem dL_cell_3 : decode cL_cell 3 = .ok (.if_icmp .ge 9, 3) := by decide +kernel
theorem dL_cell_6 : decode cL_cell 6 = .ok (.aload_n 0, 1) := by decide +kernel
theorem dL_cell_7 : decode cL_cell 7 = .ok (.iload_n 1, 1) := by decide +kernel
theorem dL_cell_8 : decode cL_cell 8 = .ok (.iaload, 1) := by decide +kernel
theorem dL_cell_9 : decode cL_cell 9 = .ok (.goto 13, 3) := by decide +kernel
theorem dL_cell_12 : decode cL_cell 12 = .ok (.ldc 7, 2) := by decide +kernel
theorem dL_cell_14 : decode cL_cell 14 = .ok (.iload_n 1, 1) := by decide +kernel
theorem dL_cell_15 : decode cL_cell 15 = .ok (.bipush 99, 2) := by decide +kernel
theorem dL_cell_17 : decode cL_cell 17 = .ok (.iadd, 1) := by decide +kernel
theorem dL_cell_18 : decode cL_cell 18 = .ok (.imul, 1) := by decide +kernel
theorem dL_cell_19 : decode cL_cell 19 = .ok (.ldc 8, 2) := by decide +kernel
theorem dL_cell_21 : decode cL_cell 21 = .ok (.iadd, 1) := by decide +kernel
theorem dL_cell_22 : decode cL_cell 22 = .ok (.ireturn, 1) := by decide +kernel
theorem dL_low_0 : decode cL_low 0 = .ok (.iload_n 0, 1) := by decide +kernel
theorem dL_low_1 : decode cL_low 1 = .ok (.ldc 9, 2) := by decide +kernel
theorem dL_low_3 : decode cL_low 3 = .ok (.iand, 1) := by decide +kernel
theorem dL_low_4 : decode cL_low 4 = .ok (.iload_n 1, 1) := by decide +kernel
theorem dL_low_5 : decode cL_low 5 = .ok (.irem, 1) := by decide +kernel
theorem dL_low_6 : decode cL_low 6 = .ok (.ireturn, 1) := by decide +kernel
theorem dL_calls_0 : decode cL_calls 0 = .ok (.iload_n 1, 1) := by decide +kernel
theorem dL_calls_1 : decode cL_calls 1 = .ok (.ifCond .ne 18, 3) := by decide +kernel
theorem dL_calls_4 : decode cL_calls 4 = .ok (.aload_n 0, 1) := by decide +kernel
theorem dL_calls_5 : decode cL_calls 5 = .ok (.iload_n 2, 1) := by decide +kernel
theorem dL_calls_6 : decode cL_calls 6 = .ok (.iload_n 3, 1) := by decide +kernel
theorem dL_calls_7 : decode cL_calls 7 = .ok (.iload 4, 2) := by decide +kernel
theorem dL_calls_9 : decode cL_calls 9 = .ok (.iload 5, 2) := by decide +kernel
theorem dL_calls_11 : decode cL_calls 11 = .ok (.iload 6, 2) := by decide +kernel
theorem dL_calls_13 : decode cL_calls 13 = .ok (.invokevirtual 10, 3) := by decide +kernel
theorem dL_calls_16 : decode cL_calls 16 = .ok (.goto 111, 3) := by decide +kernel
theorem dL_calls_19 : decode cL_calls 19 = .ok (.iload_n 1, 1) := by decide +kernel
theorem dL_calls_20 : decode cL_calls 20 = .ok (.iconst 1, 1) := by decide +kernel
theorem dL_calls_21 : decode cL_calls 21 = .ok (.if_icmp .ne 16, 3) := by decide +kernel
theorem dL_calls_24 : decode cL_calls 24 = .ok (.aload_n 0, 1) := by decide +kernel
theorem dL_calls_25 : decode cL_calls 25 = .ok (.iload_n 2, 1) := by decide +kernel
theorem dL_calls_26 : decode cL_calls 26 = .ok (.iload_n 3, 1) := by decide +kernel
theorem dL_calls_27 : decode cL_calls 27 = .ok (.iload 4, 2) := by decide +kernel
theorem dL_calls_29 : decode cL_calls 29 = .ok (.iload 5, 2) := by decide +kernel
theorem dL_calls_31 : decode cL_calls 31 = .ok (.invokevirtual 16, 3) := by decide +kernel
theorem dL_calls_34 : decode cL_calls 34 = .ok (.goto 93, 3) := by decide +kernel
theorem dL_calls_37 : decode cL_calls 37 = .ok (.iload_n 1, 1) := by decide +kernel
theorem dL_calls_38 : decode cL_calls 38 = .ok (.iconst 2, 1) := by decide +kernel
theorem dL_calls_39 : decode cL_calls 39 = .ok (.if_icmp .ne 11, 3) := by decide +kernel
theorem dL_calls_42 : decode cL_calls 42 = .ok (.aload_n 0, 1) := by decide +kernel
theorem dL_calls_43 : decode cL_calls 43 = .ok (.iload_n 2, 1) := by decide +kernel
theorem dL_calls_44 : decode cL_calls 44 = .ok (.invokevirtual 20, 3) := by decide +kernel
theorem dL_calls_47 : decode cL_calls 47 = .ok (.goto 80, 3) := by decide +kernel
theorem dL_calls_50 : decode cL_calls 50 = .ok (.iload_n 1, 1) := by decide +kernel
theorem dL_calls_51 : decode cL_calls 51 = .ok (.iconst 3, 1) := by decide +kernel
theorem dL_calls_52 : decode cL_calls 52 = .ok (.if_icmp .ne 11, 3) := by decide +kernel
theorem dL_calls_55 : decode cL_calls 55 = .ok (.aload_n 0, 1) := by decide +kernel
theorem dL_calls_56 : decode cL_calls 56 = .ok (.iload_n 2, 1) := by decide +kernel
theorem dL_calls_57 : decode cL_calls 57 = .ok (.invokevirtual 24, 3) := by decide +kernel
theorem dL_calls_60 : decode cL_calls 60 = .ok (.goto 67, 3) := by decide +kernel
theorem dL_calls_63 : decode cL_calls 63 = .ok (.iload_n 1, 1) := by decide +kernel
theorem dL_calls_64 : decode cL_calls 64 = .ok (.iconst 4, 1) := by decide +kernel
theorem dL_calls_65 : decode cL_calls 65 = .ok (.if_icmp .ne 11, 3) := by decide +kernel
theorem dL_calls_68 : decode cL_calls 68 = .ok (.aload_n 0, 1) := by decide +kernel
theorem dL_calls_69 : decode cL_calls 69 = .ok (.iload_n 2, 1) := by decide +kernel
theorem dL_calls_70 : decode cL_calls 70 = .ok (.invokevirtual 27, 3) := by decide +kernel
theorem dL_calls_73 : decode cL_calls 73 = .ok (.goto 54, 3) := by decide +kernel
theorem dL_calls_76 : decode cL_calls 76 = .ok (.iload_n 1, 1) := by decide +kernel
theorem dL_calls_77 : decode cL_calls 77 = .ok (.iconst 5, 1) := by decide +kernel
theorem dL_calls_78 : decode cL_calls 78 = .ok (.if_icmp .ne 21, 3) := by decide +kernel
theorem dL_calls_81 : decode cL_calls 81 = .ok (.aload_n 0, 1) := by decide +kernel
theorem dL_calls_82 : decode cL_calls 82 = .ok (.iload_n 2, 1) := by decide +kernel
theorem dL_calls_83 : decode cL_calls 83 = .ok (.iload_n 3, 1) := by decide +kernel
theorem dL_calls_84 : decode cL_calls 84 = .ok (.iconst 1, 1) := by decide +kernel
theorem dL_calls_85 : decode cL_calls 85 = .ok (.if_icmp .ne 7, 3) := by decide +kernel
theorem dL_calls_88 : decode cL_calls 88 = .ok (.iconst 1, 1) := by decide +kernel
theorem dL_calls_89 : decode cL_calls 89 = .ok (.goto 4, 3) := by decide +kernel
theorem dL_calls_92 : decode cL_calls 92 = .ok (.iconst 0, 1) := by decide +kernel
theorem dL_calls_93 : decode cL_calls 93 = .ok (.invokevirtual 30, 3) := by decide +kernel
theorem dL_calls_96 : decode cL_calls 96 = .ok (.goto 31, 3) := by decide +kernel
theorem dL_calls_99 : decode cL_calls 99 = .ok (.iload_n 1, 1) := by decide +kernel
theorem dL_calls_100 : decode cL_calls 100 = .ok (.bipush 6, 2) := by decide +kernel
theorem dL_calls_102 : decode cL_calls 102 = .ok (.if_icmp .ne 11, 3) := by decide +kernel
theorem dL_calls_105 : decode cL_calls 105 = .ok (.aload_n 0, 1) := by decide +kernel
theorem dL_calls_106 : decode cL_calls 106 = .ok (.iload_n 2, 1) := by decide +kernel
theorem dL_calls_107 : decode cL_calls 107 = .ok (.invokevirtual 34, 3) := by decide +kernel
theorem dL_calls_110 : decode cL_calls 110 = .ok (.goto 17, 3) := by decide +kernel
theorem dL_calls_113 : decode cL_calls 113 = .ok (.aload_n 0, 1) := by decide +kernel
theorem dL_calls_114 : decode cL_calls 114 = .ok (.iload_n 2, 1) := by decide +kernel
theorem dL_calls_115 : decode cL_calls 115 = .ok (.iload_n 3, 1) := by decide +kernel
theorem dL_calls_116 : decode cL_calls 116 = .ok (.invokevirtual 37, 3) := by decide +kernel
theorem dL_calls_119 : decode cL_calls 119 = .ok (.ifCond .eq 7, 3) := by decide +kernel
theorem dL_calls_122 : decode cL_calls 122 = .ok (.iconst 1, 1) := by decide +kernel
theorem dL_calls_123 : decode cL_calls 123 = .ok (.goto 4, 3) := by decide +kernel
theorem dL_calls_126 : decode cL_calls 126 = .ok (.iconst 0, 1) := by decide +kernel
theorem dL_calls_127 : decode cL_calls 127 = .ok (.ireturn, 1) := by decide +kernel
theorem dL_calls_128 : decode cL_calls 128 = .ok (.astore 7, 2) := by decide +kernel
theorem dL_calls_130 : decode cL_calls 130 = .ok (.ldc 43, 2) := by decide +kernel
theorem dL_calls_132 : decode cL_calls 132 = .ok (.ireturn, 1) := by decide +kernel
theorem dL_calls_133 : decode cL_calls 133 = .ok (.astore 7, 2) := by decide +kernel
theorem dL_calls_135 : decode cL_calls 135 = .ok (.ldc 46, 2) := by decide +kernel
theorem dL_calls_137 : decode cL_calls 137 = .ok (.ireturn, 1) := by decide +kernel
theorem dL_paid_0 : decode cL_paid 0 = .ok (.iconst 0, 1) := by decide +kernel
theorem dL_paid_1 : decode cL_paid 1 = .ok (.istore 4, 2) := by decide +kernel
theorem dL_paid_3 : decode cL_paid 3 = .ok (.iload 4, 2) := by decide +kernel
theorem dL_paid_5 : decode cL_paid 5 = .ok (.bipush 64, 2) := by decide +kernel
theorem dL_paid_7 : decode cL_paid 7 = .ok (.if_icmp .ge 34, 3) := by decide +kernel
theorem dL_paid_10 : decode cL_paid 10 = .ok (.aload_n 2, 1) := by decide +kernel
theorem dL_paid_11 : decode cL_paid 11 = .ok (.iload 4, 2) := by decide +kernel
theorem dL_paid_13 : decode cL_paid 13 = .ok (.iaload, 1) := by decide +kernel
theorem dL_paid_14 : decode cL_paid 14 = .ok (.iload_n 0, 1) := by decide +kernel
theorem dL_paid_15 : decode cL_paid 15 = .ok (.iconst 1, 1) := by decide +kernel
theorem dL_paid_16 : decode cL_paid 16 = .ok (.iadd, 1) := by decide +kernel
theorem dL_paid_17 : decode cL_paid 17 = .ok (.bipush 8, 2) := by decide +kernel
theorem dL_paid_19 : decode cL_paid 19 = .ok (.iload_n 1, 1) := by decide +kernel
theorem dL_paid_20 : decode cL_paid 20 = .ok (.imul, 1) := by decide +kernel
theorem dL_paid_21 : decode cL_paid 21 = .ok (.iadd, 1) := by decide +kernel
theorem dL_paid_22 : decode cL_paid 22 = .ok (.if_icmp .ne 13, 3) := by decide +kernel
theorem dL_paid_25 : decode cL_paid 25 = .ok (.iload_n 1, 1) := by decide +kernel
theorem dL_paid_26 : decode cL_paid 26 = .ok (.aload_n 3, 1) := by decide +kernel
theorem dL_paid_27 : decode cL_paid 27 = .ok (.iconst 2, 1) := by decide +kernel
theorem dL_paid_28 : decode cL_paid 28 = .ok (.iaload, 1) := by decide +kernel
theorem dL_paid_29 : decode cL_paid 29 = .ok (.if_icmp .le 6, 3) := by decide +kernel
theorem dL_paid_32 : decode cL_paid 32 = .ok (.iload 4, 2) := by decide +kernel
theorem dL_paid_34 : decode cL_paid 34 = .ok (.ireturn, 1) := by decide +kernel
theorem dL_paid_35 : decode cL_paid 35 = .ok (.iinc 4 1, 3) := by decide +kernel
theorem dL_paid_38 : decode cL_paid 38 = .ok (.goto (-35), 3) := by decide +kernel
theorem dL_paid_41 : decode cL_paid 41 = .ok (.iconst (-1), 1) := by decide +kernel
theorem dL_paid_42 : decode cL_paid 42 = .ok (.ireturn, 1) := by decide +kernel
theorem dL_keeps_0 : decode cL_keeps 0 = .ok (.iconst 0, 1) := by decide +kernel
theorem dL_keeps_1 : decode cL_keeps 1 = .ok (.istore 7, 2) := by decide +kernel
theorem dL_keeps_3 : decode cL_keeps 3 = .ok (.iload 7, 2) := by decide +kernel
theorem dL_keeps_5 : decode cL_keeps 5 = .ok (.bipush 63, 2) := by decide +kernel
theorem dL_keeps_7 : decode cL_keeps 7 = .ok (.if_icmp .ge 32, 3) := by decide +kernel
theorem dL_keeps_10 : decode cL_keeps 10 = .ok (.aload 4, 2) := by decide +kernel
theorem dL_keeps_12 : decode cL_keeps 12 = .ok (.iload 7, 2) := by decide +kernel
theorem dL_keeps_14 : decode cL_keeps 14 = .ok (.iaload, 1) := by decide +kernel
theorem dL_keeps_15 : decode cL_keeps 15 = .ok (.ifCond .le 24, 3) := by decide +kernel
theorem dL_keeps_18 : decode cL_keeps 18 = .ok (.aload 4, 2) := by decide +kernel
theorem dL_keeps_20 : decode cL_keeps 20 = .ok (.iload 7, 2) := by decide +kernel
theorem dL_keeps_22 : decode cL_keeps 22 = .ok (.iaload, 1) := by decide +kernel
theorem dL_keeps_23 : decode cL_keeps 23 = .ok (.bipush 8, 2) := by decide +kernel
theorem dL_keeps_25 : decode cL_keeps 25 = .ok (.idiv, 1) := by decide +kernel
theorem dL_keeps_26 : decode cL_keeps 26 = .ok (.aload 6, 2) := by decide +kernel
theorem dL_keeps_28 : decode cL_keeps 28 = .ok (.iconst 2, 1) := by decide +kernel
theorem dL_keeps_29 : decode cL_keeps 29 = .ok (.iaload, 1) := by decide +kernel
theorem dL_keeps_30 : decode cL_keeps 30 = .ok (.if_icmp .le 9, 3) := by decide +kernel
theorem dL_keeps_33 : decode cL_keeps 33 = .ok (.iinc 7 1, 3) := by decide +kernel
theorem dL_keeps_36 : decode cL_keeps 36 = .ok (.goto (-33), 3) := by decide +kernel
theorem dL_keeps_39 : decode cL_keeps 39 = .ok (.aload 4, 2) := by decide +kernel
theorem dL_keeps_41 : decode cL_keeps 41 = .ok (.iload 7, 2) := by decide +kernel
theorem dL_keeps_43 : decode cL_keeps 43 = .ok (.iload_n 0, 1) := by decide +kernel
theorem dL_keeps_44 : decode cL_keeps 44 = .ok (.iconst 1, 1) := by decide +kernel
theorem dL_keeps_45 : decode cL_keeps 45 = .ok (.iadd, 1) := by decide +kernel
theorem dL_keeps_46 : decode cL_keeps 46 = .ok (.bipush 8, 2) := by decide +kernel
theorem dL_keeps_48 : decode cL_keeps 48 = .ok (.iload_n 1, 1) := by decide +kernel
theorem dL_keeps_49 : decode cL_keeps 49 = .ok (.imul, 1) := by decide +kernel
theorem dL_keeps_50 : decode cL_keeps 50 = .ok (.iadd, 1) := by decide +kernel
theorem dL_keeps_51 : decode cL_keeps 51 = .ok (.iastore, 1) := by decide +kernel
theorem dL_keeps_52 : decode cL_keeps 52 = .ok (.aload 5, 2) := by decide +kernel
theorem dL_keeps_54 : decode cL_keeps 54 = .ok (.iload 7, 2) := by decide +kernel
theorem dL_keeps_56 : decode cL_keeps 56 = .ok (.iload_n 2, 1) := by decide +kernel
theorem dL_keeps_57 : decode cL_keeps 57 = .ok (.bipush 16, 2) := by decide +kernel
theorem dL_keeps_59 : decode cL_keeps 59 = .ok (.iload_n 3, 1) := by decide +kernel
theorem dL_keeps_60 : decode cL_keeps 60 = .ok (.imul, 1) := by decide +kernel
theorem dL_keeps_61 : decode cL_keeps 61 = .ok (.iadd, 1) := by decide +kernel
theorem dL_keeps_62 : decode cL_keeps 62 = .ok (.iastore, 1) := by decide +kernel
theorem dL_keeps_63 : decode cL_keeps 63 = .ok (.return_, 1) := by decide +kernel
theorem dL_speaker_0 : decode cL_speaker 0 = .ok (.aload_n 1, 1) := by decide +kernel
theorem dL_speaker_1 : decode cL_speaker 1 = .ok (.iconst 4, 1) := by decide +kernel
theorem dL_speaker_2 : decode cL_speaker 2 = .ok (.iload_n 0, 1) := by decide +kernel
theorem dL_speaker_3 : decode cL_speaker 3 = .ok (.imul, 1) := by decide +kernel
theorem dL_speaker_4 : decode cL_speaker 4 = .ok (.iconst 1, 1) := by decide +kernel
theorem dL_speaker_5 : decode cL_speaker 5 = .ok (.iadd, 1) := by decide +kernel
theorem dL_speaker_6 : decode cL_speaker 6 = .ok (.iaload, 1) := by decide +kernel
theorem dL_speaker_7 : decode cL_speaker 7 = .ok (.bipush 64, 2) := by decide +kernel
theorem dL_speaker_9 : decode cL_speaker 9 = .ok (.idiv, 1) := by decide +kernel
theorem dL_speaker_10 : decode cL_speaker 10 = .ok (.iconst 1, 1) := by decide +kernel
theorem dL_speaker_11 : decode cL_speaker 11 = .ok (.isub, 1) := by decide +kernel
theorem dL_speaker_12 : decode cL_speaker 12 = .ok (.ireturn, 1) := by decide +kernel
theorem dL_leaves_0 : decode cL_leaves 0 = .ok (.aload_n 2, 1) := by decide +kernel
theorem dL_leaves_1 : decode cL_leaves 1 = .ok (.iconst 4, 1) := by decide +kernel
theorem dL_leaves_2 : decode cL_leaves 2 = .ok (.iload_n 0, 1) := by decide +kernel
theorem dL_leaves_3 : decode cL_leaves 3 = .ok (.imul, 1) := by decide +kernel
theorem dL_leaves_4 : decode cL_leaves 4 = .ok (.iconst 1, 1) := by decide +kernel
theorem dL_leaves_5 : decode cL_leaves 5 = .ok (.iadd, 1) := by decide +kernel
theorem dL_leaves_6 : decode cL_leaves 6 = .ok (.iaload, 1) := by decide +kernel
theorem dL_leaves_7 : decode cL_leaves 7 = .ok (.bipush 16, 2) := by decide +kernel
theorem dL_leaves_9 : decode cL_leaves 9 = .ok (.irem, 1) := by decide +kernel
theorem dL_leaves_10 : decode cL_leaves 10 = .ok (.istore 7, 2) := by decide +kernel
theorem dL_leaves_12 : decode cL_leaves 12 = .ok (.aload_n 2, 1) := by decide +kernel
theorem dL_leaves_13 : decode cL_leaves 13 = .ok (.iconst 4, 1) := by decide +kernel
theorem dL_leaves_14 : decode cL_leaves 14 = .ok (.iload_n 0, 1) := by decide +kernel
theorem dL_leaves_15 : decode cL_leaves 15 = .ok (.imul, 1) := by decide +kernel
theorem dL_leaves_16 : decode cL_leaves 16 = .ok (.iconst 2, 1) := by decide +kernel
theorem dL_leaves_17 : decode cL_leaves 17 = .ok (.iadd, 1) := by decide +kernel
theorem dL_leaves_18 : decode cL_leaves 18 = .ok (.iaload, 1) := by decide +kernel
theorem dL_leaves_19 : decode cL_leaves 19 = .ok (.aload 6, 2) := by decide +kernel
theorem dL_leaves_21 : decode cL_leaves 21 = .ok (.iconst 2, 1) := by decide +kernel
theorem dL_leaves_22 : decode cL_leaves 22 = .ok (.iaload, 1) := by decide +kernel
theorem dL_leaves_23 : decode cL_leaves 23 = .ok (.isub, 1) := by decide +kernel
theorem dL_leaves_24 : decode cL_leaves 24 = .ok (.istore 8, 2) := by decide +kernel
theorem dL_leaves_26 : decode cL_leaves 26 = .ok (.iload_n 0, 1) := by decide +kernel
theorem dL_leaves_27 : decode cL_leaves 27 = .ok (.aload_n 2, 1) := by decide +kernel
theorem dL_leaves_28 : decode cL_leaves 28 = .ok (.invokestatic 47, 3) := by decide +kernel
theorem dL_leaves_31 : decode cL_leaves 31 = .ok (.ifCond .lt 9, 3) := by decide +kernel
theorem dL_leaves_34 : decode cL_leaves 34 = .ok (.iload 8, 2) := by decide +kernel
theorem dL_leaves_36 : decode cL_leaves 36 = .ok (.iconst 1, 1) := by decide +kernel
theorem dL_leaves_37 : decode cL_leaves 37 = .ok (.if_icmp .ge 4, 3) := by decide +kernel
theorem dL_leaves_40 : decode cL_leaves 40 = .ok (.return_, 1) := by decide +kernel
theorem dL_leaves_41 : decode cL_leaves 41 = .ok (.iconst 0, 1) := by decide +kernel
theorem dL_leaves_42 : decode cL_leaves 42 = .ok (.istore 9, 2) := by decide +kernel
theorem dL_leaves_44 : decode cL_leaves 44 = .ok (.iload 9, 2) := by decide +kernel
theorem dL_leaves_46 : decode cL_leaves 46 = .ok (.aload_n 2, 1) := by decide +kernel
theorem dL_leaves_47 : decode cL_leaves 47 = .ok (.iconst 4, 1) := by decide +kernel
theorem dL_leaves_48 : decode cL_leaves 48 = .ok (.iload_n 0, 1) := by decide +kernel
theorem dL_leaves_49 : decode cL_leaves 49 = .ok (.imul, 1) := by decide +kernel
theorem dL_leaves_50 : decode cL_leaves 50 = .ok (.iconst 3, 1) := by decide +kernel
theorem dL_leaves_51 : decode cL_leaves 51 = .ok (.iadd, 1) := by decide +kernel
theorem dL_leaves_52 : decode cL_leaves 52 = .ok (.iaload, 1) := by decide +kernel
theorem dL_leaves_53 : decode cL_leaves 53 = .ok (.bipush 16, 2) := by decide +kernel
theorem dL_leaves_55 : decode cL_leaves 55 = .ok (.irem, 1) := by decide +kernel
theorem dL_leaves_56 : decode cL_leaves 56 = .ok (.if_icmp .ge 73, 3) := by decide +kernel
theorem dL_leaves_59 : decode cL_leaves 59 = .ok (.iload 8, 2) := by decide +kernel
theorem dL_leaves_61 : decode cL_leaves 61 = .ok (.bipush 7, 2) := by decide +kernel
theorem dL_leaves_63 : decode cL_leaves 63 = .ok (.if_icmp .le 26, 3) := by decide +kernel
theorem dL_leaves_66 : decode cL_leaves 66 = .ok (.aload_n 1, 1) := by decide +kernel
theorem dL_leaves_67 : decode cL_leaves 67 = .ok (.bipush 8, 2) := by decide +kernel
theorem dL_leaves_69 : decode cL_leaves 69 = .ok (.iload 7, 2) := by decide +kernel
theorem dL_leaves_71 : decode cL_leaves 71 = .ok (.imul, 1) := by decide +kernel
theorem dL_leaves_72 : decode cL_leaves 72 = .ok (.iconst 5, 1) := by decide +kernel
theorem dL_leaves_73 : decode cL_leaves 73 = .ok (.iadd, 1) := by decide +kernel
theorem dL_leaves_74 : decode cL_leaves 74 = .ok (.dup2, 1) := by decide +kernel
theorem dL_leaves_75 : decode cL_leaves 75 = .ok (.iaload, 1) := by decide +kernel
theorem dL_leaves_76 : decode cL_leaves 76 = .ok (.aload_n 3, 1) := by decide +kernel
theorem dL_leaves_77 : decode cL_leaves 77 = .ok (.iconst 4, 1) := by decide +kernel
theorem dL_leaves_78 : decode cL_leaves 78 = .ok (.iload_n 0, 1) := by decide +kernel
theorem dL_leaves_79 : decode cL_leaves 79 = .ok (.imul, 1) := by decide +kernel
theorem dL_leaves_80 : decode cL_leaves 80 = .ok (.iload 9, 2) := by decide +kernel
theorem dL_leaves_82 : decode cL_leaves 82 = .ok (.iadd, 1) := by decide +kernel
theorem dL_leaves_83 : decode cL_leaves 83 = .ok (.iaload, 1) := by decide +kernel
theorem dL_leaves_84 : decode cL_leaves 84 = .ok (.iadd, 1) := by decide +kernel
theorem dL_leaves_85 : decode cL_leaves 85 = .ok (.iastore, 1) := by decide +kernel
theorem dL_leaves_86 : decode cL_leaves 86 = .ok (.goto 37, 3) := by decide +kernel
theorem dL_leaves_89 : decode cL_leaves 89 = .ok (.iload_n 0, 1) := by decide +kernel
theorem dL_leaves_90 : decode cL_leaves 90 = .ok (.aload_n 2, 1) := by decide +kernel
theorem dL_leaves_91 : decode cL_leaves 91 = .ok (.invokestatic 47, 3) := by decide +kernel
theorem dL_leaves_94 : decode cL_leaves 94 = .ok (.aload_n 2, 1) := by decide +kernel
theorem dL_leaves_95 : decode cL_leaves 95 = .ok (.iconst 4, 1) := by decide +kernel
theorem dL_leaves_96 : decode cL_leaves 96 = .ok (.iload_n 0, 1) := by decide +kernel
theorem dL_leaves_97 : decode cL_leaves 97 = .ok (.imul, 1) := by decide +kernel
theorem dL_leaves_98 : decode cL_leaves 98 = .ok (.iconst 2, 1) := by decide +kernel
theorem dL_leaves_99 : decode cL_leaves 99 = .ok (.iadd, 1) := by decide +kernel
theorem dL_leaves_100 : decode cL_leaves 100 = .ok (.iaload, 1) := by decide +kernel
theorem dL_leaves_101 : decode cL_leaves 101 = .ok (.iload 9, 2) := by decide +kernel
theorem dL_leaves_103 : decode cL_leaves 103 = .ok (.iadd, 1) := by decide +kernel
theorem dL_leaves_104 : decode cL_leaves 104 = .ok (.iload 7, 2) := by decide +kernel
theorem dL_leaves_106 : decode cL_leaves 106 = .ok (.aload_n 3, 1) := by decide +kernel
theorem dL_leaves_107 : decode cL_leaves 107 = .ok (.iconst 4, 1) := by decide +kernel
theorem dL_leaves_108 : decode cL_leaves 108 = .ok (.iload_n 0, 1) := by decide +kernel
theorem dL_leaves_109 : decode cL_leaves 109 = .ok (.imul, 1) := by decide +kernel
theorem dL_leaves_110 : decode cL_leaves 110 = .ok (.iload 9, 2) := by decide +kernel
theorem dL_leaves_112 : decode cL_leaves 112 = .ok (.iadd, 1) := by decide +kernel
theorem dL_leaves_113 : decode cL_leaves 113 = .ok (.iaload, 1) := by decide +kernel
theorem dL_leaves_114 : decode cL_leaves 114 = .ok (.aload 4, 2) := by decide +kernel
theorem dL_leaves_116 : decode cL_leaves 116 = .ok (.aload 5, 2) := by decide +kernel
theorem dL_leaves_118 : decode cL_leaves 118 = .ok (.aload 6, 2) := by decide +kernel
theorem dL_leaves_120 : decode cL_leaves 120 = .ok (.invokestatic 53, 3) := by decide +kernel
theorem dL_leaves_123 : decode cL_leaves 123 = .ok (.iinc 9 1, 3) := by decide +kernel
theorem dL_leaves_126 : decode cL_leaves 126 = .ok (.goto (-82), 3) := by decide +kernel
theorem dL_leaves_129 : decode cL_leaves 129 = .ok (.return_, 1) := by decide +kernel
theorem dL_comes_0 : decode cL_comes 0 = .ok (.aload_n 2, 1) := by decide +kernel
theorem dL_comes_1 : decode cL_comes 1 = .ok (.iconst 4, 1) := by decide +kernel
theorem dL_comes_2 : decode cL_comes 2 = .ok (.iload_n 0, 1) := by decide +kernel
theorem dL_comes_3 : decode cL_comes 3 = .ok (.imul, 1) := by decide +kernel
theorem dL_comes_4 : decode cL_comes 4 = .ok (.iconst 1, 1) := by decide +kernel
theorem dL_comes_5 : decode cL_comes 5 = .ok (.iadd, 1) := by decide +kernel
theorem dL_comes_6 : decode cL_comes 6 = .ok (.iaload, 1) := by decide +kernel
theorem dL_comes_7 : decode cL_comes 7 = .ok (.bipush 16, 2) := by decide +kernel
theorem dL_comes_9 : decode cL_comes 9 = .ok (.irem, 1) := by decide +kernel
theorem dL_comes_10 : decode cL_comes 10 = .ok (.istore 8, 2) := by decide +kernel
theorem dL_comes_12 : decode cL_comes 12 = .ok (.iload_n 0, 1) := by decide +kernel
theorem dL_comes_13 : decode cL_comes 13 = .ok (.aload_n 2, 1) := by decide +kernel
theorem dL_comes_14 : decode cL_comes 14 = .ok (.invokestatic 47, 3) := by decide +kernel
theorem dL_comes_17 : decode cL_comes 17 = .ok (.istore 9, 2) := by decide +kernel
theorem dL_comes_19 : decode cL_comes 19 = .ok (.iconst 0, 1) := by decide +kernel
theorem dL_comes_20 : decode cL_comes 20 = .ok (.istore 10, 2) := by decide +kernel
theorem dL_comes_22 : decode cL_comes 22 = .ok (.iload 10, 2) := by decide +kernel
theorem dL_comes_24 : decode cL_comes 24 = .ok (.aload_n 2, 1) := by decide +kernel
theorem dL_comes_25 : decode cL_comes 25 = .ok (.iconst 4, 1) := by decide +kernel
theorem dL_comes_26 : decode cL_comes 26 = .ok (.iload_n 0, 1) := by decide +kernel
theorem dL_comes_27 : decode cL_comes 27 = .ok (.imul, 1) := by decide +kernel
theorem dL_comes_28 : decode cL_comes 28 = .ok (.iconst 3, 1) := by decide +kernel
theorem dL_comes_29 : decode cL_comes 29 = .ok (.iadd, 1) := by decide +kernel
theorem dL_comes_30 : decode cL_comes 30 = .ok (.iaload, 1) := by decide +kernel
theorem dL_comes_31 : decode cL_comes 31 = .ok (.bipush 16, 2) := by decide +kernel
theorem dL_comes_33 : decode cL_comes 33 = .ok (.irem, 1) := by decide +kernel
theorem dL_comes_34 : decode cL_comes 34 = .ok (.if_icmp .ge 139, 3) := by decide +kernel
theorem dL_comes_37 : decode cL_comes 37 = .ok (.iload 9, 2) := by decide +kernel
theorem dL_comes_39 : decode cL_comes 39 = .ok (.ifCond .ge 7, 3) := by decide +kernel
theorem dL_comes_42 : decode cL_comes 42 = .ok (.iconst 0, 1) := by decide +kernel
theorem dL_comes_43 : decode cL_comes 43 = .ok (.goto 10, 3) := by decide +kernel
theorem dL_comes_46 : decode cL_comes 46 = .ok (.aload 6, 2) := by decide +kernel
theorem dL_comes_48 : decode cL_comes 48 = .ok (.iconst 4, 1) := by decide +kernel
theorem dL_comes_49 : decode cL_comes 49 = .ok (.iload 9, 2) := by decide +kernel
theorem dL_comes_51 : decode cL_comes 51 = .ok (.iadd, 1) := by decide +kernel
theorem dL_comes_52 : decode cL_comes 52 = .ok (.iaload, 1) := by decide +kernel
theorem dL_comes_53 : decode cL_comes 53 = .ok (.istore 11, 2) := by decide +kernel
theorem dL_comes_55 : decode cL_comes 55 = .ok (.iload 9, 2) := by decide +kernel
theorem dL_comes_57 : decode cL_comes 57 = .ok (.ifCond .ge 7, 3) := by decide +kernel
theorem dL_comes_60 : decode cL_comes 60 = .ok (.iconst (-1), 1) := by decide +kernel
theorem dL_comes_61 : decode cL_comes 61 = .ok (.goto 22, 3) := by decide +kernel
theorem dL_comes_64 : decode cL_comes 64 = .ok (.iload 9, 2) := by decide +kernel
theorem dL_comes_66 : decode cL_comes 66 = .ok (.aload_n 2, 1) := by decide +kernel
theorem dL_comes_67 : decode cL_comes 67 = .ok (.iconst 4, 1) := by decide +kernel
theorem dL_comes_68 : decode cL_comes 68 = .ok (.iload_n 0, 1) := by decide +kernel
theorem dL_comes_69 : decode cL_comes 69 = .ok (.imul, 1) := by decide +kernel
theorem dL_comes_70 : decode cL_comes 70 = .ok (.iconst 2, 1) := by decide +kernel
theorem dL_comes_71 : decode cL_comes 71 = .ok (.iadd, 1) := by decide +kernel
theorem dL_comes_72 : decode cL_comes 72 = .ok (.iaload, 1) := by decide +kernel
theorem dL_comes_73 : decode cL_comes 73 = .ok (.iload 10, 2) := by decide +kernel
theorem dL_comes_75 : decode cL_comes 75 = .ok (.iadd, 1) := by decide +kernel
theorem dL_comes_76 : decode cL_comes 76 = .ok (.aload 4, 2) := by decide +kernel
theorem dL_comes_78 : decode cL_comes 78 = .ok (.aload 7, 2) := by decide +kernel
theorem dL_comes_80 : decode cL_comes 80 = .ok (.invokestatic 57, 3) := by decide +kernel
theorem dL_comes_83 : decode cL_comes 83 = .ok (.istore 12, 2) := by decide +kernel
theorem dL_comes_85 : decode cL_comes 85 = .ok (.iload 12, 2) := by decide +kernel
theorem dL_comes_87 : decode cL_comes 87 = .ok (.ifCond .lt 56, 3) := by decide +kernel
theorem dL_comes_90 : decode cL_comes 90 = .ok (.aload 5, 2) := by decide +kernel
theorem dL_comes_92 : decode cL_comes 92 = .ok (.iload 12, 2) := by decide +kernel
theorem dL_comes_94 : decode cL_comes 94 = .ok (.iaload, 1) := by decide +kernel
theorem dL_comes_95 : decode cL_comes 95 = .ok (.bipush 16, 2) := by decide +kernel
theorem dL_comes_97 : decode cL_comes 97 = .ok (.irem, 1) := by decide +kernel
theorem dL_comes_98 : decode cL_comes 98 = .ok (.istore 13, 2) := by decide +kernel
theorem dL_comes_100 : decode cL_comes 100 = .ok (.iload 13, 2) := by decide +kernel
theorem dL_comes_102 : decode cL_comes 102 = .ok (.iload 8, 2) := by decide +kernel
theorem dL_comes_104 : decode cL_comes 104 = .ok (.if_icmp .ne 7, 3) := by decide +kernel
theorem dL_comes_107 : decode cL_comes 107 = .ok (.iconst 0, 1) := by decide +kernel
theorem dL_comes_108 : decode cL_comes 108 = .ok (.goto 13, 3) := by decide +kernel
theorem dL_comes_111 : decode cL_comes 111 = .ok (.aload 5, 2) := by decide +kernel
theorem dL_comes_113 : decode cL_comes 113 = .ok (.iload 12, 2) := by decide +kernel
theorem dL_comes_115 : decode cL_comes 115 = .ok (.iaload, 1) := by decide +kernel
theorem dL_comes_116 : decode cL_comes 116 = .ok (.bipush 16, 2) := by decide +kernel
theorem dL_comes_118 : decode cL_comes 118 = .ok (.idiv, 1) := by decide +kernel
theorem dL_comes_119 : decode cL_comes 119 = .ok (.iconst 2, 1) := by decide +kernel
theorem dL_comes_120 : decode cL_comes 120 = .ok (.idiv, 1) := by decide +kernel
theorem dL_comes_121 : decode cL_comes 121 = .ok (.istore 11, 2) := by decide +kernel
theorem dL_comes_123 : decode cL_comes 123 = .ok (.aload_n 1, 1) := by decide +kernel
theorem dL_comes_124 : decode cL_comes 124 = .ok (.bipush 8, 2) := by decide +kernel
theorem dL_comes_126 : decode cL_comes 126 = .ok (.iload 13, 2) := by decide +kernel
theorem dL_comes_128 : decode cL_comes 128 = .ok (.imul, 1) := by decide +kernel
theorem dL_comes_129 : decode cL_comes 129 = .ok (.iconst 5, 1) := by decide +kernel
theorem dL_comes_130 : decode cL_comes 130 = .ok (.iadd, 1) := by decide +kernel
theorem dL_comes_131 : decode cL_comes 131 = .ok (.dup2, 1) := by decide +kernel
theorem dL_comes_132 : decode cL_comes 132 = .ok (.iaload, 1) := by decide +kernel
theorem dL_comes_133 : decode cL_comes 133 = .ok (.iload 11, 2) := by decide +kernel
theorem dL_comes_135 : decode cL_comes 135 = .ok (.iadd, 1) := by decide +kernel
theorem dL_comes_136 : decode cL_comes 136 = .ok (.iastore, 1) := by decide +kernel
theorem dL_comes_137 : decode cL_comes 137 = .ok (.aload 4, 2) := by decide +kernel
theorem dL_comes_139 : decode cL_comes 139 = .ok (.iload 12, 2) := by decide +kernel
theorem dL_comes_141 : decode cL_comes 141 = .ok (.iconst 0, 1) := by decide +kernel
theorem dL_comes_142 : decode cL_comes 142 = .ok (.iastore, 1) := by decide +kernel
theorem dL_comes_143 : decode cL_comes 143 = .ok (.aload_n 3, 1) := by decide +kernel
theorem dL_comes_144 : decode cL_comes 144 = .ok (.iconst 4, 1) := by decide +kernel
theorem dL_comes_145 : decode cL_comes 145 = .ok (.iload_n 0, 1) := by decide +kernel
theorem dL_comes_146 : decode cL_comes 146 = .ok (.imul, 1) := by decide +kernel
theorem dL_comes_147 : decode cL_comes 147 = .ok (.iload 10, 2) := by decide +kernel
theorem dL_comes_149 : decode cL_comes 149 = .ok (.iadd, 1) := by decide +kernel
theorem dL_comes_150 : decode cL_comes 150 = .ok (.iload 11, 2) := by decide +kernel
theorem dL_comes_152 : decode cL_comes 152 = .ok (.iastore, 1) := by decide +kernel
theorem dL_comes_153 : decode cL_comes 153 = .ok (.aload_n 1, 1) := by decide +kernel
theorem dL_comes_154 : decode cL_comes 154 = .ok (.bipush 8, 2) := by decide +kernel
theorem dL_comes_156 : decode cL_comes 156 = .ok (.iload 8, 2) := by decide +kernel
theorem dL_comes_158 : decode cL_comes 158 = .ok (.imul, 1) := by decide +kernel
theorem dL_comes_159 : decode cL_comes 159 = .ok (.iconst 5, 1) := by decide +kernel
theorem dL_comes_160 : decode cL_comes 160 = .ok (.iadd, 1) := by decide +kernel
theorem dL_comes_161 : decode cL_comes 161 = .ok (.dup2, 1) := by decide +kernel
theorem dL_comes_162 : decode cL_comes 162 = .ok (.iaload, 1) := by decide +kernel
theorem dL_comes_163 : decode cL_comes 163 = .ok (.iload 11, 2) := by decide +kernel
theorem dL_comes_165 : decode cL_comes 165 = .ok (.isub, 1) := by decide +kernel
theorem dL_comes_166 : decode cL_comes 166 = .ok (.iastore, 1) := by decide +kernel
theorem dL_comes_167 : decode cL_comes 167 = .ok (.iinc 10 1, 3) := by decide +kernel
theorem dL_comes_170 : decode cL_comes 170 = .ok (.goto (-148), 3) := by decide +kernel
theorem dL_comes_173 : decode cL_comes 173 = .ok (.return_, 1) := by decide +kernel
theorem dL_shares_0 : decode cL_shares 0 = .ok (.aload_n 2, 1) := by decide +kernel
theorem dL_shares_1 : decode cL_shares 1 = .ok (.bipush 8, 2) := by decide +kernel
theorem dL_shares_3 : decode cL_shares 3 = .ok (.iload_n 0, 1) := by decide +kernel
theorem dL_shares_4 : decode cL_shares 4 = .ok (.imul, 1) := by decide +kernel
theorem dL_shares_5 : decode cL_shares 5 = .ok (.iconst 2, 1) := by decide +kernel
theorem dL_shares_6 : decode cL_shares 6 = .ok (.iadd, 1) := by decide +kernel
theorem dL_shares_7 : decode cL_shares 7 = .ok (.iaload, 1) := by decide +kernel
theorem dL_shares_8 : decode cL_shares 8 = .ok (.aload_n 2, 1) := by decide +kernel
theorem dL_shares_9 : decode cL_shares 9 = .ok (.bipush 8, 2) := by decide +kernel
theorem dL_shares_11 : decode cL_shares 11 = .ok (.iload_n 1, 1) := by decide +kernel
theorem dL_shares_12 : decode cL_shares 12 = .ok (.imul, 1) := by decide +kernel
theorem dL_shares_13 : decode cL_shares 13 = .ok (.iconst 2, 1) := by decide +kernel
theorem dL_shares_14 : decode cL_shares 14 = .ok (.iadd, 1) := by decide +kernel
theorem dL_shares_15 : decode cL_shares 15 = .ok (.iaload, 1) := by decide +kernel
theorem dL_shares_16 : decode cL_shares 16 = .ok (.if_icmp .eq 60, 3) := by decide +kernel
theorem dL_shares_19 : decode cL_shares 19 = .ok (.aload_n 2, 1) := by decide +kernel
theorem dL_shares_20 : decode cL_shares 20 = .ok (.bipush 8, 2) := by decide +kernel
theorem dL_shares_22 : decode cL_shares 22 = .ok (.iload_n 0, 1) := by decide +kernel
theorem dL_shares_23 : decode cL_shares 23 = .ok (.imul, 1) := by decide +kernel
theorem dL_shares_24 : decode cL_shares 24 = .ok (.iconst 2, 1) := by decide +kernel
theorem dL_shares_25 : decode cL_shares 25 = .ok (.iadd, 1) := by decide +kernel
theorem dL_shares_26 : decode cL_shares 26 = .ok (.iaload, 1) := by decide +kernel
theorem dL_shares_27 : decode cL_shares 27 = .ok (.aload_n 2, 1) := by decide +kernel
theorem dL_shares_28 : decode cL_shares 28 = .ok (.bipush 8, 2) := by decide +kernel
theorem dL_shares_30 : decode cL_shares 30 = .ok (.iload_n 1, 1) := by decide +kernel
theorem dL_shares_31 : decode cL_shares 31 = .ok (.imul, 1) := by decide +kernel
theorem dL_shares_32 : decode cL_shares 32 = .ok (.iconst 3, 1) := by decide +kernel
theorem dL_shares_33 : decode cL_shares 33 = .ok (.iadd, 1) := by decide +kernel
theorem dL_shares_34 : decode cL_shares 34 = .ok (.iaload, 1) := by decide +kernel
theorem dL_shares_35 : decode cL_shares 35 = .ok (.if_icmp .eq 41, 3) := by decide +kernel
theorem dL_shares_38 : decode cL_shares 38 = .ok (.aload_n 2, 1) := by decide +kernel
theorem dL_shares_39 : decode cL_shares 39 = .ok (.bipush 8, 2) := by decide +kernel
theorem dL_shares_41 : decode cL_shares 41 = .ok (.iload_n 0, 1) := by decide +kernel
theorem dL_shares_42 : decode cL_shares 42 = .ok (.imul, 1) := by decide +kernel
theorem dL_shares_43 : decode cL_shares 43 = .ok (.iconst 3, 1) := by decide +kernel
theorem dL_shares_44 : decode cL_shares 44 = .ok (.iadd, 1) := by decide +kernel
theorem dL_shares_45 : decode cL_shares 45 = .ok (.iaload, 1) := by decide +kernel
theorem dL_shares_46 : decode cL_shares 46 = .ok (.aload_n 2, 1) := by decide +kernel
theorem dL_shares_47 : decode cL_shares 47 = .ok (.bipush 8, 2) := by decide +kernel
theorem dL_shares_49 : decode cL_shares 49 = .ok (.iload_n 1, 1) := by decide +kernel
theorem dL_shares_50 : decode cL_shares 50 = .ok (.imul, 1) := by decide +kernel
theorem dL_shares_51 : decode cL_shares 51 = .ok (.iconst 2, 1) := by decide +kernel
theorem dL_shares_52 : decode cL_shares 52 = .ok (.iadd, 1) := by decide +kernel
theorem dL_shares_53 : decode cL_shares 53 = .ok (.iaload, 1) := by decide +kernel
theorem dL_shares_54 : decode cL_shares 54 = .ok (.if_icmp .eq 22, 3) := by decide +kernel
theorem dL_shares_57 : decode cL_shares 57 = .ok (.aload_n 2, 1) := by decide +kernel
theorem dL_shares_58 : decode cL_shares 58 = .ok (.bipush 8, 2) := by decide +kernel
theorem dL_shares_60 : decode cL_shares 60 = .ok (.iload_n 0, 1) := by decide +kernel
theorem dL_shares_61 : decode cL_shares 61 = .ok (.imul, 1) := by decide +kernel
theorem dL_shares_62 : decode cL_shares 62 = .ok (.iconst 3, 1) := by decide +kernel
theorem dL_shares_63 : decode cL_shares 63 = .ok (.iadd, 1) := by decide +kernel
theorem dL_shares_64 : decode cL_shares 64 = .ok (.iaload, 1) := by decide +kernel
theorem dL_shares_65 : decode cL_shares 65 = .ok (.aload_n 2, 1) := by decide +kernel
theorem dL_shares_66 : decode cL_shares 66 = .ok (.bipush 8, 2) := by decide +kernel
theorem dL_shares_68 : decode cL_shares 68 = .ok (.iload_n 1, 1) := by decide +kernel
theorem dL_shares_69 : decode cL_shares 69 = .ok (.imul, 1) := by decide +kernel
theorem dL_shares_70 : decode cL_shares 70 = .ok (.iconst 3, 1) := by decide +kernel
theorem dL_shares_71 : decode cL_shares 71 = .ok (.iadd, 1) := by decide +kernel
theorem dL_shares_72 : decode cL_shares 72 = .ok (.iaload, 1) := by decide +kernel
theorem dL_shares_73 : decode cL_shares 73 = .ok (.if_icmp .ne 7, 3) := by decide +kernel
theorem dL_shares_76 : decode cL_shares 76 = .ok (.iconst 1, 1) := by decide +kernel
theorem dL_shares_77 : decode cL_shares 77 = .ok (.goto 4, 3) := by decide +kernel
theorem dL_shares_80 : decode cL_shares 80 = .ok (.iconst 0, 1) := by decide +kernel
theorem dL_shares_81 : decode cL_shares 81 = .ok (.ireturn, 1) := by decide +kernel
theorem dL_clash_0 : decode cL_clash 0 = .ok (.iconst 0, 1) := by decide +kernel
theorem dL_clash_1 : decode cL_clash 1 = .ok (.istore 9, 2) := by decide +kernel
theorem dL_clash_3 : decode cL_clash 3 = .ok (.iconst 0, 1) := by decide +kernel
theorem dL_clash_4 : decode cL_clash 4 = .ok (.istore 10, 2) := by decide +kernel
theorem dL_clash_6 : decode cL_clash 6 = .ok (.iload 10, 2) := by decide +kernel
theorem dL_clash_8 : decode cL_clash 8 = .ok (.aload 8, 2) := by decide +kernel
theorem dL_clash_10 : decode cL_clash 10 = .ok (.iconst 1, 1) := by decide +kernel
theorem dL_clash_11 : decode cL_clash 11 = .ok (.iaload, 1) := by decide +kernel
theorem dL_clash_12 : decode cL_clash 12 = .ok (.if_icmp .ge 210, 3) := by decide +kernel
theorem dL_clash_15 : decode cL_clash 15 = .ok (.iload_n 3, 1) := by decide +kernel
theorem dL_clash_16 : decode cL_clash 16 = .ok (.istore 11, 2) := by decide +kernel
theorem dL_clash_18 : decode cL_clash 18 = .ok (.iload 11, 2) := by decide +kernel
theorem dL_clash_20 : decode cL_clash 20 = .ok (.iload_n 3, 1) := by decide +kernel
theorem dL_clash_21 : decode cL_clash 21 = .ok (.iload 4, 2) := by decide +kernel
theorem dL_clash_23 : decode cL_clash 23 = .ok (.iadd, 1) := by decide +kernel
theorem dL_clash_24 : decode cL_clash 24 = .ok (.if_icmp .ge 192, 3) := by decide +kernel
theorem dL_clash_27 : decode cL_clash 27 = .ok (.iload 10, 2) := by decide +kernel
theorem dL_clash_29 : decode cL_clash 29 = .ok (.iload 5, 2) := by decide +kernel
theorem dL_clash_31 : decode cL_clash 31 = .ok (.if_icmp .eq 179, 3) := by decide +kernel
theorem dL_clash_34 : decode cL_clash 34 = .ok (.aload 7, 2) := by decide +kernel
theorem dL_clash_36 : decode cL_clash 36 = .ok (.iconst 4, 1) := by decide +kernel
theorem dL_clash_37 : decode cL_clash 37 = .ok (.iload 10, 2) := by decide +kernel
theorem dL_clash_39 : decode cL_clash 39 = .ok (.imul, 1) := by decide +kernel
theorem dL_clash_40 : decode cL_clash 40 = .ok (.iaload, 1) := by decide +kernel
theorem dL_clash_41 : decode cL_clash 41 = .ok (.ifCond .ne 169, 3) := by decide +kernel
theorem dL_clash_44 : decode cL_clash 44 = .ok (.aload 7, 2) := by decide +kernel
theorem dL_clash_46 : decode cL_clash 46 = .ok (.iconst 4, 1) := by decide +kernel
theorem dL_clash_47 : decode cL_clash 47 = .ok (.iload 10, 2) := by decide +kernel
theorem dL_clash_49 : decode cL_clash 49 = .ok (.imul, 1) := by decide +kernel
theorem dL_clash_50 : decode cL_clash 50 = .ok (.iconst 2, 1) := by decide +kernel
theorem dL_clash_51 : decode cL_clash 51 = .ok (.iadd, 1) := by decide +kernel
theorem dL_clash_52 : decode cL_clash 52 = .ok (.iaload, 1) := by decide +kernel
theorem dL_clash_53 : decode cL_clash 53 = .ok (.iload 11, 2) := by decide +kernel
theorem dL_clash_55 : decode cL_clash 55 = .ok (.if_icmp .gt 155, 3) := by decide +kernel
theorem dL_clash_58 : decode cL_clash 58 = .ok (.iload 11, 2) := by decide +kernel
theorem dL_clash_60 : decode cL_clash 60 = .ok (.aload 7, 2) := by decide +kernel
theorem dL_clash_62 : decode cL_clash 62 = .ok (.iconst 4, 1) := by decide +kernel
theorem dL_clash_63 : decode cL_clash 63 = .ok (.iload 10, 2) := by decide +kernel
theorem dL_clash_65 : decode cL_clash 65 = .ok (.imul, 1) := by decide +kernel
theorem dL_clash_66 : decode cL_clash 66 = .ok (.iconst 2, 1) := by decide +kernel
theorem dL_clash_67 : decode cL_clash 67 = .ok (.iadd, 1) := by decide +kernel
theorem dL_clash_68 : decode cL_clash 68 = .ok (.iaload, 1) := by decide +kernel
theorem dL_clash_69 : decode cL_clash 69 = .ok (.aload 7, 2) := by decide +kernel
theorem dL_clash_71 : decode cL_clash 71 = .ok (.iconst 4, 1) := by decide +kernel
theorem dL_clash_72 : decode cL_clash 72 = .ok (.iload 10, 2) := by decide +kernel
theorem dL_clash_74 : decode cL_clash 74 = .ok (.imul, 1) := by decide +kernel
theorem dL_clash_75 : decode cL_clash 75 = .ok (.iconst 3, 1) := by decide +kernel
theorem dL_clash_76 : decode cL_clash 76 = .ok (.iadd, 1) := by decide +kernel
theorem dL_clash_77 : decode cL_clash 77 = .ok (.iaload, 1) := by decide +kernel
theorem dL_clash_78 : decode cL_clash 78 = .ok (.bipush 16, 2) := by decide +kernel
theorem dL_clash_80 : decode cL_clash 80 = .ok (.irem, 1) := by decide +kernel
theorem dL_clash_81 : decode cL_clash 81 = .ok (.iadd, 1) := by decide +kernel
theorem dL_clash_82 : decode cL_clash 82 = .ok (.if_icmp .ge 128, 3) := by decide +kernel
theorem dL_clash_85 : decode cL_clash 85 = .ok (.aload 7, 2) := by decide +kernel
theorem dL_clash_87 : decode cL_clash 87 = .ok (.iconst 4, 1) := by decide +kernel
theorem dL_clash_88 : decode cL_clash 88 = .ok (.iload 10, 2) := by decide +kernel
theorem dL_clash_90 : decode cL_clash 90 = .ok (.imul, 1) := by decide +kernel
theorem dL_clash_91 : decode cL_clash 91 = .ok (.iconst 1, 1) := by decide +kernel
theorem dL_clash_92 : decode cL_clash 92 = .ok (.iadd, 1) := by decide +kernel
theorem dL_clash_93 : decode cL_clash 93 = .ok (.iaload, 1) := by decide +kernel
theorem dL_clash_94 : decode cL_clash 94 = .ok (.bipush 16, 2) := by decide +kernel
theorem dL_clash_96 : decode cL_clash 96 = .ok (.irem, 1) := by decide +kernel
theorem dL_clash_97 : decode cL_clash 97 = .ok (.istore 12, 2) := by decide +kernel
theorem dL_clash_99 : decode cL_clash 99 = .ok (.aload 7, 2) := by decide +kernel
theorem dL_clash_101 : decode cL_clash 101 = .ok (.iconst 4, 1) := by decide +kernel
theorem dL_clash_102 : decode cL_clash 102 = .ok (.iload 10, 2) := by decide +kernel
theorem dL_clash_104 : decode cL_clash 104 = .ok (.imul, 1) := by decide +kernel
theorem dL_clash_105 : decode cL_clash 105 = .ok (.iconst 1, 1) := by decide +kernel
theorem dL_clash_106 : decode cL_clash 106 = .ok (.iadd, 1) := by decide +kernel
theorem dL_clash_107 : decode cL_clash 107 = .ok (.iaload, 1) := by decide +kernel
theorem dL_clash_108 : decode cL_clash 108 = .ok (.bipush 16, 2) := by decide +kernel
theorem dL_clash_110 : decode cL_clash 110 = .ok (.idiv, 1) := by decide +kernel
theorem dL_clash_111 : decode cL_clash 111 = .ok (.iconst 4, 1) := by decide +kernel
theorem dL_clash_112 : decode cL_clash 112 = .ok (.irem, 1) := by decide +kernel
theorem dL_clash_113 : decode cL_clash 113 = .ok (.iload_n 1, 1) := by decide +kernel
theorem dL_clash_114 : decode cL_clash 114 = .ok (.if_icmp .ne 7, 3) := by decide +kernel
theorem dL_clash_117 : decode cL_clash 117 = .ok (.iconst 1, 1) := by decide +kernel
theorem dL_clash_118 : decode cL_clash 118 = .ok (.goto 64, 3) := by decide +kernel
theorem dL_clash_121 : decode cL_clash 121 = .ok (.aload 6, 2) := by decide +kernel
theorem dL_clash_123 : decode cL_clash 123 = .ok (.bipush 8, 2) := by decide +kernel
theorem dL_clash_125 : decode cL_clash 125 = .ok (.iload 12, 2) := by decide +kernel
theorem dL_clash_127 : decode cL_clash 127 = .ok (.imul, 1) := by decide +kernel
theorem dL_clash_128 : decode cL_clash 128 = .ok (.iconst 1, 1) := by decide +kernel
theorem dL_clash_129 : decode cL_clash 129 = .ok (.iadd, 1) := by decide +kernel
theorem dL_clash_130 : decode cL_clash 130 = .ok (.iaload, 1) := by decide +kernel
theorem dL_clash_131 : decode cL_clash 131 = .ok (.aload 6, 2) := by decide +kernel
theorem dL_clash_133 : decode cL_clash 133 = .ok (.bipush 8, 2) := by decide +kernel
theorem dL_clash_135 : decode cL_clash 135 = .ok (.iload_n 0, 1) := by decide +kernel
theorem dL_clash_136 : decode cL_clash 136 = .ok (.imul, 1) := by decide +kernel
theorem dL_clash_137 : decode cL_clash 137 = .ok (.iconst 1, 1) := by decide +kernel
theorem dL_clash_138 : decode cL_clash 138 = .ok (.iadd, 1) := by decide +kernel
theorem dL_clash_139 : decode cL_clash 139 = .ok (.iaload, 1) := by decide +kernel
theorem dL_clash_140 : decode cL_clash 140 = .ok (.if_icmp .ne 7, 3) := by decide +kernel
theorem dL_clash_143 : decode cL_clash 143 = .ok (.iconst 2, 1) := by decide +kernel
theorem dL_clash_144 : decode cL_clash 144 = .ok (.goto 38, 3) := by decide +kernel
theorem dL_clash_147 : decode cL_clash 147 = .ok (.iload_n 0, 1) := by decide +kernel
theorem dL_clash_148 : decode cL_clash 148 = .ok (.iload 12, 2) := by decide +kernel
theorem dL_clash_150 : decode cL_clash 150 = .ok (.aload 6, 2) := by decide +kernel
theorem dL_clash_152 : decode cL_clash 152 = .ok (.invokestatic 61, 3) := by decide +kernel
theorem dL_clash_155 : decode cL_clash 155 = .ok (.ifCond .eq 7, 3) := by decide +kernel
theorem dL_clash_158 : decode cL_clash 158 = .ok (.iconst 3, 1) := by decide +kernel
theorem dL_clash_159 : decode cL_clash 159 = .ok (.goto 23, 3) := by decide +kernel
theorem dL_clash_162 : decode cL_clash 162 = .ok (.iload_n 2, 1) := by decide +kernel
theorem dL_clash_163 : decode cL_clash 163 = .ok (.ifCond .lt 18, 3) := by decide +kernel
theorem dL_clash_166 : decode cL_clash 166 = .ok (.iload 10, 2) := by decide +kernel
theorem dL_clash_168 : decode cL_clash 168 = .ok (.aload 7, 2) := by decide +kernel
theorem dL_clash_170 : decode cL_clash 170 = .ok (.invokestatic 47, 3) := by decide +kernel
theorem dL_clash_173 : decode cL_clash 173 = .ok (.iload_n 2, 1) := by decide +kernel
theorem dL_clash_174 : decode cL_clash 174 = .ok (.if_icmp .ne 7, 3) := by decide +kernel
theorem dL_clash_177 : decode cL_clash 177 = .ok (.iconst 4, 1) := by decide +kernel
theorem dL_clash_178 : decode cL_clash 178 = .ok (.goto 4, 3) := by decide +kernel
theorem dL_clash_181 : decode cL_clash 181 = .ok (.iconst 0, 1) := by decide +kernel
theorem dL_clash_182 : decode cL_clash 182 = .ok (.istore 13, 2) := by decide +kernel
theorem dL_clash_184 : decode cL_clash 184 = .ok (.iload 13, 2) := by decide +kernel
theorem dL_clash_186 : decode cL_clash 186 = .ok (.ifCond .le 20, 3) := by decide +kernel
theorem dL_clash_189 : decode cL_clash 189 = .ok (.iload 9, 2) := by decide +kernel
theorem dL_clash_191 : decode cL_clash 191 = .ok (.ifCond .eq 10, 3) := by decide +kernel
theorem dL_clash_194 : decode cL_clash 194 = .ok (.iload 13, 2) := by decide +kernel
theorem dL_clash_196 : decode cL_clash 196 = .ok (.iload 9, 2) := by decide +kernel
theorem dL_clash_198 : decode cL_clash 198 = .ok (.if_icmp .ge 8, 3) := by decide +kernel
theorem dL_clash_201 : decode cL_clash 201 = .ok (.iload 13, 2) := by decide +kernel
theorem dL_clash_203 : decode cL_clash 203 = .ok (.goto 5, 3) := by decide +kernel
theorem dL_clash_206 : decode cL_clash 206 = .ok (.iload 9, 2) := by decide +kernel
theorem dL_clash_208 : decode cL_clash 208 = .ok (.istore 9, 2) := by decide +kernel
theorem dL_clash_210 : decode cL_clash 210 = .ok (.iinc 11 1, 3) := by decide +kernel
theorem dL_clash_213 : decode cL_clash 213 = .ok (.goto (-195), 3) := by decide +kernel
theorem dL_clash_216 : decode cL_clash 216 = .ok (.iinc 10 1, 3) := by decide +kernel
theorem dL_clash_219 : decode cL_clash 219 = .ok (.goto (-213), 3) := by decide +kernel
theorem dL_clash_222 : decode cL_clash 222 = .ok (.iload 9, 2) := by decide +kernel
theorem dL_clash_224 : decode cL_clash 224 = .ok (.ireturn, 1) := by decide +kernel
theorem dL_fits_0 : decode cL_fits 0 = .ok (.aload_n 2, 1) := by decide +kernel
theorem dL_fits_1 : decode cL_fits 1 = .ok (.bipush 8, 2) := by decide +kernel
theorem dL_fits_3 : decode cL_fits 3 = .ok (.iload_n 0, 1) := by decide +kernel
theorem dL_fits_4 : decode cL_fits 4 = .ok (.imul, 1) := by decide +kernel
theorem dL_fits_5 : decode cL_fits 5 = .ok (.iconst 4, 1) := by decide +kernel
theorem dL_fits_6 : decode cL_fits 6 = .ok (.iadd, 1) := by decide +kernel
theorem dL_fits_7 : decode cL_fits 7 = .ok (.iaload, 1) := by decide +kernel
theorem dL_fits_8 : decode cL_fits 8 = .ok (.iconst 1, 1) := by decide +kernel
theorem dL_fits_9 : decode cL_fits 9 = .ok (.isub, 1) := by decide +kernel
theorem dL_fits_10 : decode cL_fits 10 = .ok (.istore 4, 2) := by decide +kernel
theorem dL_fits_12 : decode cL_fits 12 = .ok (.iload 4, 2) := by decide +kernel
theorem dL_fits_14 : decode cL_fits 14 = .ok (.ifCond .ge 15, 3) := by decide +kernel
theorem dL_fits_17 : decode cL_fits 17 = .ok (.iload_n 1, 1) := by decide +kernel
theorem dL_fits_18 : decode cL_fits 18 = .ok (.ifCond .ge 7, 3) := by decide +kernel
theorem dL_fits_21 : decode cL_fits 21 = .ok (.iconst 1, 1) := by decide +kernel
theorem dL_fits_22 : decode cL_fits 22 = .ok (.goto 28, 3) := by decide +kernel
theorem dL_fits_25 : decode cL_fits 25 = .ok (.iconst 0, 1) := by decide +kernel
theorem dL_fits_26 : decode cL_fits 26 = .ok (.goto 24, 3) := by decide +kernel
theorem dL_fits_29 : decode cL_fits 29 = .ok (.iload_n 1, 1) := by decide +kernel
theorem dL_fits_30 : decode cL_fits 30 = .ok (.ifCond .lt 19, 3) := by decide +kernel
theorem dL_fits_33 : decode cL_fits 33 = .ok (.aload_n 3, 1) := by decide +kernel
theorem dL_fits_34 : decode cL_fits 34 = .ok (.iload_n 1, 1) := by decide +kernel
theorem dL_fits_35 : decode cL_fits 35 = .ok (.iaload, 1) := by decide +kernel
theorem dL_fits_36 : decode cL_fits 36 = .ok (.iload 4, 2) := by decide +kernel
theorem dL_fits_38 : decode cL_fits 38 = .ok (.ishr, 1) := by decide +kernel
theorem dL_fits_39 : decode cL_fits 39 = .ok (.iconst 1, 1) := by decide +kernel
theorem dL_fits_40 : decode cL_fits 40 = .ok (.iand, 1) := by decide +kernel
theorem dL_fits_41 : decode cL_fits 41 = .ok (.iconst 1, 1) := by decide +kernel
theorem dL_fits_42 : decode cL_fits 42 = .ok (.if_icmp .ne 7, 3) := by decide +kernel
theorem dL_fits_45 : decode cL_fits 45 = .ok (.iconst 1, 1) := by decide +kernel
theorem dL_fits_46 : decode cL_fits 46 = .ok (.goto 4, 3) := by decide +kernel
theorem dL_fits_49 : decode cL_fits 49 = .ok (.iconst 0, 1) := by decide +kernel
theorem dL_fits_50 : decode cL_fits 50 = .ok (.ireturn, 1) := by decide +kernel
theorem dL_hour_0 : decode cL_hour 0 = .ok (.iconst 0, 1) := by decide +kernel
theorem dL_hour_1 : decode cL_hour 1 = .ok (.istore_n 3, 1) := by decide +kernel
theorem dL_hour_2 : decode cL_hour 2 = .ok (.iconst 0, 1) := by decide +kernel
theorem dL_hour_3 : decode cL_hour 3 = .ok (.istore 4, 2) := by decide +kernel
theorem dL_hour_5 : decode cL_hour 5 = .ok (.iload 4, 2) := by decide +kernel
theorem dL_hour_7 : decode cL_hour 7 = .ok (.aload_n 2, 1) := by decide +kernel
theorem dL_hour_8 : decode cL_hour 8 = .ok (.iconst 0, 1) := by decide +kernel
theorem dL_hour_9 : decode cL_hour 9 = .ok (.iaload, 1) := by decide +kernel
theorem dL_hour_10 : decode cL_hour 10 = .ok (.if_icmp .ge 38, 3) := by decide +kernel
theorem dL_hour_13 : decode cL_hour 13 = .ok (.aload_n 0, 1) := by decide +kernel
theorem dL_hour_14 : decode cL_hour 14 = .ok (.bipush 8, 2) := by decide +kernel
theorem dL_hour_16 : decode cL_hour 16 = .ok (.iload 4, 2) := by decide +kernel
theorem dL_hour_18 : decode cL_hour 18 = .ok (.imul, 1) := by decide +kernel
theorem dL_hour_19 : decode cL_hour 19 = .ok (.bipush 6, 2) := by decide +kernel
theorem dL_hour_21 : decode cL_hour 21 = .ok (.iadd, 1) := by decide +kernel
theorem dL_hour_22 : decode cL_hour 22 = .ok (.dup2, 1) := by decide +kernel
theorem dL_hour_23 : decode cL_hour 23 = .ok (.iaload, 1) := by decide +kernel
theorem dL_hour_24 : decode cL_hour 24 = .ok (.aload_n 0, 1) := by decide +kernel
theorem dL_hour_25 : decode cL_hour 25 = .ok (.bipush 8, 2) := by decide +kernel
theorem dL_hour_27 : decode cL_hour 27 = .ok (.iload 4, 2) := by decide +kernel
theorem dL_hour_29 : decode cL_hour 29 = .ok (.imul, 1) := by decide +kernel
theorem dL_hour_30 : decode cL_hour 30 = .ok (.iaload, 1) := by decide +kernel
theorem dL_hour_31 : decode cL_hour 31 = .ok (.iconst 3, 1) := by decide +kernel
theorem dL_hour_32 : decode cL_hour 32 = .ok (.if_icmp .ne 7, 3) := by decide +kernel
theorem dL_hour_35 : decode cL_hour 35 = .ok (.iconst 1, 1) := by decide +kernel
theorem dL_hour_36 : decode cL_hour 36 = .ok (.goto 4, 3) := by decide +kernel
theorem dL_hour_39 : decode cL_hour 39 = .ok (.iconst 0, 1) := by decide +kernel
theorem dL_hour_40 : decode cL_hour 40 = .ok (.iadd, 1) := by decide +kernel
theorem dL_hour_41 : decode cL_hour 41 = .ok (.iastore, 1) := by decide +kernel
theorem dL_hour_42 : decode cL_hour 42 = .ok (.iinc 4 1, 3) := by decide +kernel
theorem dL_hour_45 : decode cL_hour 45 = .ok (.goto (-40), 3) := by decide +kernel
theorem dL_hour_48 : decode cL_hour 48 = .ok (.aload_n 2, 1) := by decide +kernel
theorem dL_hour_49 : decode cL_hour 49 = .ok (.iconst 2, 1) := by decide +kernel
theorem dL_hour_50 : decode cL_hour 50 = .ok (.dup2, 1) := by decide +kernel
theorem dL_hour_51 : decode cL_hour 51 = .ok (.iaload, 1) := by decide +kernel
theorem dL_hour_52 : decode cL_hour 52 = .ok (.iconst 1, 1) := by decide +kernel
theorem dL_hour_53 : decode cL_hour 53 = .ok (.iadd, 1) := by decide +kernel
theorem dL_hour_54 : decode cL_hour 54 = .ok (.iastore, 1) := by decide +kernel
theorem dL_hour_55 : decode cL_hour 55 = .ok (.iconst 0, 1) := by decide +kernel
theorem dL_hour_56 : decode cL_hour 56 = .ok (.istore 4, 2) := by decide +kernel
theorem dL_hour_58 : decode cL_hour 58 = .ok (.iload 4, 2) := by decide +kernel
theorem dL_hour_60 : decode cL_hour 60 = .ok (.aload_n 2, 1) := by decide +kernel
theorem dL_hour_61 : decode cL_hour 61 = .ok (.iconst 1, 1) := by decide +kernel
theorem dL_hour_62 : decode cL_hour 62 = .ok (.iaload, 1) := by decide +kernel
theorem dL_hour_63 : decode cL_hour 63 = .ok (.if_icmp .ge 142, 3) := by decide +kernel
theorem dL_hour_66 : decode cL_hour 66 = .ok (.aload_n 1, 1) := by decide +kernel
theorem dL_hour_67 : decode cL_hour 67 = .ok (.iconst 4, 1) := by decide +kernel
theorem dL_hour_68 : decode cL_hour 68 = .ok (.iload 4, 2) := by decide +kernel
theorem dL_hour_70 : decode cL_hour 70 = .ok (.imul, 1) := by decide +kernel
theorem dL_hour_71 : decode cL_hour 71 = .ok (.iconst 1, 1) := by decide +kernel
theorem dL_hour_72 : decode cL_hour 72 = .ok (.iadd, 1) := by decide +kernel
theorem dL_hour_73 : decode cL_hour 73 = .ok (.iaload, 1) := by decide +kernel
theorem dL_hour_74 : decode cL_hour 74 = .ok (.bipush 16, 2) := by decide +kernel
theorem dL_hour_76 : decode cL_hour 76 = .ok (.irem, 1) := by decide +kernel
theorem dL_hour_77 : decode cL_hour 77 = .ok (.istore 5, 2) := by decide +kernel
theorem dL_hour_79 : decode cL_hour 79 = .ok (.aload_n 1, 1) := by decide +kernel
theorem dL_hour_80 : decode cL_hour 80 = .ok (.iconst 4, 1) := by decide +kernel
theorem dL_hour_81 : decode cL_hour 81 = .ok (.iload 4, 2) := by decide +kernel
theorem dL_hour_83 : decode cL_hour 83 = .ok (.imul, 1) := by decide +kernel
theorem dL_hour_84 : decode cL_hour 84 = .ok (.iaload, 1) := by decide +kernel
theorem dL_hour_85 : decode cL_hour 85 = .ok (.ifCond .ne 114, 3) := by decide +kernel
theorem dL_hour_88 : decode cL_hour 88 = .ok (.aload_n 1, 1) := by decide +kernel
theorem dL_hour_89 : decode cL_hour 89 = .ok (.iconst 4, 1) := by decide +kernel
theorem dL_hour_90 : decode cL_hour 90 = .ok (.iload 4, 2) := by decide +kernel
theorem dL_hour_92 : decode cL_hour 92 = .ok (.imul, 1) := by decide +kernel
theorem dL_hour_93 : decode cL_hour 93 = .ok (.iconst 2, 1) := by decide +kernel
theorem dL_hour_94 : decode cL_hour 94 = .ok (.iadd, 1) := by decide +kernel
theorem dL_hour_95 : decode cL_hour 95 = .ok (.iaload, 1) := by decide +kernel
theorem dL_hour_96 : decode cL_hour 96 = .ok (.aload_n 1, 1) := by decide +kernel
theorem dL_hour_97 : decode cL_hour 97 = .ok (.iconst 4, 1) := by decide +kernel
theorem dL_hour_98 : decode cL_hour 98 = .ok (.iload 4, 2) := by decide +kernel
theorem dL_hour_100 : decode cL_hour 100 = .ok (.imul, 1) := by decide +kernel
theorem dL_hour_101 : decode cL_hour 101 = .ok (.iconst 3, 1) := by decide +kernel
theorem dL_hour_102 : decode cL_hour 102 = .ok (.iadd, 1) := by decide +kernel
theorem dL_hour_103 : decode cL_hour 103 = .ok (.iaload, 1) := by decide +kernel
theorem dL_hour_104 : decode cL_hour 104 = .ok (.bipush 16, 2) := by decide +kernel
theorem dL_hour_106 : decode cL_hour 106 = .ok (.irem, 1) := by decide +kernel
theorem dL_hour_107 : decode cL_hour 107 = .ok (.iadd, 1) := by decide +kernel
theorem dL_hour_108 : decode cL_hour 108 = .ok (.aload_n 2, 1) := by decide +kernel
theorem dL_hour_109 : decode cL_hour 109 = .ok (.iconst 2, 1) := by decide +kernel
theorem dL_hour_110 : decode cL_hour 110 = .ok (.iaload, 1) := by decide +kernel
theorem dL_hour_111 : decode cL_hour 111 = .ok (.if_icmp .ne 88, 3) := by decide +kernel
theorem dL_hour_114 : decode cL_hour 114 = .ok (.aload_n 0, 1) := by decide +kernel
theorem dL_hour_115 : decode cL_hour 115 = .ok (.bipush 8, 2) := by decide +kernel
theorem dL_hour_117 : decode cL_hour 117 = .ok (.iload 5, 2) := by decide +kernel
theorem dL_hour_119 : decode cL_hour 119 = .ok (.imul, 1) := by decide +kernel
theorem dL_hour_120 : decode cL_hour 120 = .ok (.iaload, 1) := by decide +kernel
theorem dL_hour_121 : decode cL_hour 121 = .ok (.iconst 2, 1) := by decide +kernel
theorem dL_hour_122 : decode cL_hour 122 = .ok (.if_icmp .ge 22, 3) := by decide +kernel
theorem dL_hour_125 : decode cL_hour 125 = .ok (.aload_n 1, 1) := by decide +kernel
theorem dL_hour_126 : decode cL_hour 126 = .ok (.iconst 4, 1) := by decide +kernel
theorem dL_hour_127 : decode cL_hour 127 = .ok (.iload 4, 2) := by decide +kernel
theorem dL_hour_129 : decode cL_hour 129 = .ok (.imul, 1) := by decide +kernel
theorem dL_hour_130 : decode cL_hour 130 = .ok (.iconst 3, 1) := by decide +kernel
theorem dL_hour_131 : decode cL_hour 131 = .ok (.iadd, 1) := by decide +kernel
theorem dL_hour_132 : decode cL_hour 132 = .ok (.iaload, 1) := by decide +kernel
theorem dL_hour_133 : decode cL_hour 133 = .ok (.bipush 16, 2) := by decide +kernel
theorem dL_hour_135 : decode cL_hour 135 = .ok (.idiv, 1) := by decide +kernel
theorem dL_hour_136 : decode cL_hour 136 = .ok (.iconst 3, 1) := by decide +kernel
theorem dL_hour_137 : decode cL_hour 137 = .ok (.if_icmp .ne 7, 3) := by decide +kernel
theorem dL_hour_140 : decode cL_hour 140 = .ok (.iconst 1, 1) := by decide +kernel
theorem dL_hour_141 : decode cL_hour 141 = .ok (.goto 4, 3) := by decide +kernel
theorem dL_hour_144 : decode cL_hour 144 = .ok (.iconst 0, 1) := by decide +kernel
theorem dL_hour_145 : decode cL_hour 145 = .ok (.istore 6, 2) := by decide +kernel
theorem dL_hour_147 : decode cL_hour 147 = .ok (.aload_n 1, 1) := by decide +kernel
theorem dL_hour_148 : decode cL_hour 148 = .ok (.iconst 4, 1) := by decide +kernel
theorem dL_hour_149 : decode cL_hour 149 = .ok (.iload 4, 2) := by decide +kernel
theorem dL_hour_151 : decode cL_hour 151 = .ok (.imul, 1) := by decide +kernel
theorem dL_hour_152 : decode cL_hour 152 = .ok (.iload 6, 2) := by decide +kernel
theorem dL_hour_154 : decode cL_hour 154 = .ok (.ifCond .eq 7, 3) := by decide +kernel
theorem dL_hour_157 : decode cL_hour 157 = .ok (.iconst 1, 1) := by decide +kernel
theorem dL_hour_158 : decode cL_hour 158 = .ok (.goto 4, 3) := by decide +kernel
theorem dL_hour_161 : decode cL_hour 161 = .ok (.iconst 2, 1) := by decide +kernel
theorem dL_hour_162 : decode cL_hour 162 = .ok (.iastore, 1) := by decide +kernel
theorem dL_hour_163 : decode cL_hour 163 = .ok (.aload_n 0, 1) := by decide +kernel
theorem dL_hour_164 : decode cL_hour 164 = .ok (.bipush 8, 2) := by decide +kernel
theorem dL_hour_166 : decode cL_hour 166 = .ok (.iload 5, 2) := by decide +kernel
theorem dL_hour_168 : decode cL_hour 168 = .ok (.imul, 1) := by decide +kernel
theorem dL_hour_169 : decode cL_hour 169 = .ok (.iload 6, 2) := by decide +kernel
theorem dL_hour_171 : decode cL_hour 171 = .ok (.ifCond .eq 7, 3) := by decide +kernel
theorem dL_hour_174 : decode cL_hour 174 = .ok (.iconst 1, 1) := by decide +kernel
theorem dL_hour_175 : decode cL_hour 175 = .ok (.goto 10, 3) := by decide +kernel
theorem dL_hour_178 : decode cL_hour 178 = .ok (.aload_n 0, 1) := by decide +kernel
theorem dL_hour_179 : decode cL_hour 179 = .ok (.bipush 8, 2) := by decide +kernel
theorem dL_hour_181 : decode cL_hour 181 = .ok (.iload 5, 2) := by decide +kernel
theorem dL_hour_183 : decode cL_hour 183 = .ok (.imul, 1) := by decide +kernel
theorem dL_hour_184 : decode cL_hour 184 = .ok (.iaload, 1) := by decide +kernel
theorem dL_hour_185 : decode cL_hour 185 = .ok (.iastore, 1) := by decide +kernel
theorem dL_hour_186 : decode cL_hour 186 = .ok (.iload_n 3, 1) := by decide +kernel
theorem dL_hour_187 : decode cL_hour 187 = .ok (.iload 6, 2) := by decide +kernel
theorem dL_hour_189 : decode cL_hour 189 = .ok (.ifCond .eq 7, 3) := by decide +kernel
theorem dL_hour_192 : decode cL_hour 192 = .ok (.iconst 1, 1) := by decide +kernel
theorem dL_hour_193 : decode cL_hour 193 = .ok (.goto 4, 3) := by decide +kernel
theorem dL_hour_196 : decode cL_hour 196 = .ok (.iconst 0, 1) := by decide +kernel
theorem dL_hour_197 : decode cL_hour 197 = .ok (.iadd, 1) := by decide +kernel
theorem dL_hour_198 : decode cL_hour 198 = .ok (.istore_n 3, 1) := by decide +kernel
theorem dL_hour_199 : decode cL_hour 199 = .ok (.iinc 4 1, 3) := by decide +kernel
theorem dL_hour_202 : decode cL_hour 202 = .ok (.goto (-144), 3) := by decide +kernel
theorem dL_hour_205 : decode cL_hour 205 = .ok (.iconst 0, 1) := by decide +kernel
theorem dL_hour_206 : decode cL_hour 206 = .ok (.istore 4, 2) := by decide +kernel
theorem dL_hour_208 : decode cL_hour 208 = .ok (.iload 4, 2) := by decide +kernel
theorem dL_hour_210 : decode cL_hour 210 = .ok (.aload_n 2, 1) := by decide +kernel
theorem dL_hour_211 : decode cL_hour 211 = .ok (.iconst 0, 1) := by decide +kernel
theorem dL_hour_212 : decode cL_hour 212 = .ok (.iaload, 1) := by decide +kernel
theorem dL_hour_213 : decode cL_hour 213 = .ok (.if_icmp .ge 54, 3) := by decide +kernel
theorem dL_hour_216 : decode cL_hour 216 = .ok (.aload_n 0, 1) := by decide +kernel
theorem dL_hour_217 : decode cL_hour 217 = .ok (.bipush 8, 2) := by decide +kernel
theorem dL_hour_219 : decode cL_hour 219 = .ok (.iload 4, 2) := by decide +kernel
theorem dL_hour_221 : decode cL_hour 221 = .ok (.imul, 1) := by decide +kernel
theorem dL_hour_222 : decode cL_hour 222 = .ok (.aload_n 0, 1) := by decide +kernel
theorem dL_hour_223 : decode cL_hour 223 = .ok (.bipush 8, 2) := by decide +kernel
theorem dL_hour_225 : decode cL_hour 225 = .ok (.iload 4, 2) := by decide +kernel
theorem dL_hour_227 : decode cL_hour 227 = .ok (.imul, 1) := by decide +kernel
theorem dL_hour_228 : decode cL_hour 228 = .ok (.iaload, 1) := by decide +kernel
theorem dL_hour_229 : decode cL_hour 229 = .ok (.iconst 2, 1) := by decide +kernel
theorem dL_hour_230 : decode cL_hour 230 = .ok (.if_icmp .ge 23, 3) := by decide +kernel
theorem dL_hour_233 : decode cL_hour 233 = .ok (.aload_n 0, 1) := by decide +kernel
theorem dL_hour_234 : decode cL_hour 234 = .ok (.bipush 8, 2) := by decide +kernel
theorem dL_hour_236 : decode cL_hour 236 = .ok (.iload 4, 2) := by decide +kernel
theorem dL_hour_238 : decode cL_hour 238 = .ok (.imul, 1) := by decide +kernel
theorem dL_hour_239 : decode cL_hour 239 = .ok (.bipush 6, 2) := by decide +kernel
theorem dL_hour_241 : decode cL_hour 241 = .ok (.iadd, 1) := by decide +kernel
theorem dL_hour_242 : decode cL_hour 242 = .ok (.iaload, 1) := by decide +kernel
theorem dL_hour_243 : decode cL_hour 243 = .ok (.aload_n 2, 1) := by decide +kernel
theorem dL_hour_244 : decode cL_hour 244 = .ok (.iconst 2, 1) := by decide +kernel
theorem dL_hour_245 : decode cL_hour 245 = .ok (.iaload, 1) := by decide +kernel
theorem dL_hour_246 : decode cL_hour 246 = .ok (.if_icmp .gt 7, 3) := by decide +kernel
theorem dL_hour_249 : decode cL_hour 249 = .ok (.iconst 5, 1) := by decide +kernel
theorem dL_hour_250 : decode cL_hour 250 = .ok (.goto 10, 3) := by decide +kernel
theorem dL_hour_253 : decode cL_hour 253 = .ok (.aload_n 0, 1) := by decide +kernel
theorem dL_hour_254 : decode cL_hour 254 = .ok (.bipush 8, 2) := by decide +kernel
theorem dL_hour_256 : decode cL_hour 256 = .ok (.iload 4, 2) := by decide +kernel
theorem dL_hour_258 : decode cL_hour 258 = .ok (.imul, 1) := by decide +kernel
theorem dL_hour_259 : decode cL_hour 259 = .ok (.iaload, 1) := by decide +kernel
theorem dL_hour_260 : decode cL_hour 260 = .ok (.iastore, 1) := by decide +kernel
theorem dL_hour_261 : decode cL_hour 261 = .ok (.iinc 4 1, 3) := by decide +kernel
theorem dL_hour_264 : decode cL_hour 264 = .ok (.goto (-56), 3) := by decide +kernel
theorem dL_hour_267 : decode cL_hour 267 = .ok (.iload_n 3, 1) := by decide +kernel
theorem dL_hour_268 : decode cL_hour 268 = .ok (.ireturn, 1) := by decide +kernel
theorem dL_plans_0 : decode cL_plans 0 = .ok (.iload_n 2, 1) := by decide +kernel
theorem dL_plans_1 : decode cL_plans 1 = .ok (.iconst 4, 1) := by decide +kernel
theorem dL_plans_2 : decode cL_plans 2 = .ok (.invokestatic 65, 3) := by decide +kernel
theorem dL_plans_5 : decode cL_plans 5 = .ok (.istore 10, 2) := by decide +kernel
theorem dL_plans_7 : decode cL_plans 7 = .ok (.aload 9, 2) := by decide +kernel
theorem dL_plans_9 : decode cL_plans 9 = .ok (.iconst 2, 1) := by decide +kernel
theorem dL_plans_10 : decode cL_plans 10 = .ok (.iaload, 1) := by decide +kernel
theorem dL_plans_11 : decode cL_plans 11 = .ok (.iload_n 2, 1) := by decide +kernel
theorem dL_plans_12 : decode cL_plans 12 = .ok (.iconst 2, 1) := by decide +kernel
theorem dL_plans_13 : decode cL_plans 13 = .ok (.ishr, 1) := by decide +kernel
theorem dL_plans_14 : decode cL_plans 14 = .ok (.bipush 14, 2) := by decide +kernel
theorem dL_plans_16 : decode cL_plans 16 = .ok (.invokestatic 65, 3) := by decide +kernel
theorem dL_plans_19 : decode cL_plans 19 = .ok (.iadd, 1) := by decide +kernel
theorem dL_plans_20 : decode cL_plans 20 = .ok (.istore 11, 2) := by decide +kernel
theorem dL_plans_22 : decode cL_plans 22 = .ok (.iconst 1, 1) := by decide +kernel
theorem dL_plans_23 : decode cL_plans 23 = .ok (.iload_n 2, 1) := by decide +kernel
theorem dL_plans_24 : decode cL_plans 24 = .ok (.iconst 5, 1) := by decide +kernel
theorem dL_plans_25 : decode cL_plans 25 = .ok (.ishr, 1) := by decide +kernel
theorem dL_plans_26 : decode cL_plans 26 = .ok (.iconst 4, 1) := by decide +kernel
theorem dL_plans_27 : decode cL_plans 27 = .ok (.invokestatic 65, 3) := by decide +kernel
theorem dL_plans_30 : decode cL_plans 30 = .ok (.iadd, 1) := by decide +kernel
theorem dL_plans_31 : decode cL_plans 31 = .ok (.istore 12, 2) := by decide +kernel
theorem dL_plans_33 : decode cL_plans 33 = .ok (.iload_n 1, 1) := by decide +kernel
theorem dL_plans_34 : decode cL_plans 34 = .ok (.ifCond .ne 280, 3) := by decide +kernel
theorem dL_plans_37 : decode cL_plans 37 = .ok (.iload_n 2, 1) := by decide +kernel
theorem dL_plans_38 : decode cL_plans 38 = .ok (.bipush 7, 2) := by decide +kernel
theorem dL_plans_40 : decode cL_plans 40 = .ok (.ishr, 1) := by decide +kernel
theorem dL_plans_41 : decode cL_plans 41 = .ok (.aload 9, 2) := by decide +kernel
theorem dL_plans_43 : decode cL_plans 43 = .ok (.iconst 0, 1) := by decide +kernel
theorem dL_plans_44 : decode cL_plans 44 = .ok (.iaload, 1) := by decide +kernel
theorem dL_plans_45 : decode cL_plans 45 = .ok (.invokestatic 65, 3) := by decide +kernel
theorem dL_plans_48 : decode cL_plans 48 = .ok (.istore 13, 2) := by decide +kernel
theorem dL_plans_50 : decode cL_plans 50 = .ok (.aload_n 3, 1) := by decide +kernel
theorem dL_plans_51 : decode cL_plans 51 = .ok (.bipush 8, 2) := by decide +kernel
theorem dL_plans_53 : decode cL_plans 53 = .ok (.iload 13, 2) := by decide +kernel
theorem dL_plans_55 : decode cL_plans 55 = .ok (.imul, 1) := by decide +kernel
theorem dL_plans_56 : decode cL_plans 56 = .ok (.iconst 4, 1) := by decide +kernel
theorem dL_plans_57 : decode cL_plans 57 = .ok (.iadd, 1) := by decide +kernel
theorem dL_plans_58 : decode cL_plans 58 = .ok (.iaload, 1) := by decide +kernel
theorem dL_plans_59 : decode cL_plans 59 = .ok (.ifCond .ne 17, 3) := by decide +kernel
theorem dL_plans_62 : decode cL_plans 62 = .ok (.iload_n 2, 1) := by decide +kernel
theorem dL_plans_63 : decode cL_plans 63 = .ok (.bipush 9, 2) := by decide +kernel
theorem dL_plans_65 : decode cL_plans 65 = .ok (.ishr, 1) := by decide +kernel
theorem dL_plans_66 : decode cL_plans 66 = .ok (.bipush 9, 2) := by decide +kernel
theorem dL_plans_68 : decode cL_plans 68 = .ok (.invokestatic 65, 3) := by decide +kernel
theorem dL_plans_71 : decode cL_plans 71 = .ok (.iconst 1, 1) := by decide +kernel
theorem dL_plans_72 : decode cL_plans 72 = .ok (.isub, 1) := by decide +kernel
theorem dL_plans_73 : decode cL_plans 73 = .ok (.goto 13, 3) := by decide +kernel
theorem dL_plans_76 : decode cL_plans 76 = .ok (.iload_n 2, 1) := by decide +kernel
theorem dL_plans_77 : decode cL_plans 77 = .ok (.bipush 9, 2) := by decide +kernel
theorem dL_plans_79 : decode cL_plans 79 = .ok (.ishr, 1) := by decide +kernel
theorem dL_plans_80 : decode cL_plans 80 = .ok (.iconst 5, 1) := by decide +kernel
theorem dL_plans_81 : decode cL_plans 81 = .ok (.invokestatic 65, 3) := by decide +kernel
theorem dL_plans_84 : decode cL_plans 84 = .ok (.iconst 1, 1) := by decide +kernel
theorem dL_plans_85 : decode cL_plans 85 = .ok (.isub, 1) := by decide +kernel
theorem dL_plans_86 : decode cL_plans 86 = .ok (.istore 14, 2) := by decide +kernel
theorem dL_plans_88 : decode cL_plans 88 = .ok (.iload 14, 2) := by decide +kernel
theorem dL_plans_90 : decode cL_plans 90 = .ok (.iconst 3, 1) := by decide +kernel
theorem dL_plans_91 : decode cL_plans 91 = .ok (.if_icmp .le 7, 3) := by decide +kernel
theorem dL_plans_94 : decode cL_plans 94 = .ok (.iconst (-1), 1) := by decide +kernel
theorem dL_plans_95 : decode cL_plans 95 = .ok (.goto 5, 3) := by decide +kernel
theorem dL_plans_98 : decode cL_plans 98 = .ok (.iload 14, 2) := by decide +kernel
theorem dL_plans_100 : decode cL_plans 100 = .ok (.istore 14, 2) := by decide +kernel
theorem dL_plans_102 : decode cL_plans 102 = .ok (.aload 9, 2) := by decide +kernel
theorem dL_plans_104 : decode cL_plans 104 = .ok (.iconst 1, 1) := by decide +kernel
theorem dL_plans_105 : decode cL_plans 105 = .ok (.iaload, 1) := by decide +kernel
theorem dL_plans_106 : decode cL_plans 106 = .ok (.bipush 16, 2) := by decide +kernel
theorem dL_plans_108 : decode cL_plans 108 = .ok (.if_icmp .ne 5, 3) := by decide +kernel
theorem dL_plans_111 : decode cL_plans 111 = .ok (.iconst 1, 1) := by decide +kernel
theorem dL_plans_112 : decode cL_plans 112 = .ok (.ireturn, 1) := by decide +kernel
theorem dL_plans_113 : decode cL_plans 113 = .ok (.aload_n 3, 1) := by decide +kernel
theorem dL_plans_114 : decode cL_plans 114 = .ok (.bipush 8, 2) := by decide +kernel
theorem dL_plans_116 : decode cL_plans 116 = .ok (.iload 13, 2) := by decide +kernel
theorem dL_plans_118 : decode cL_plans 118 = .ok (.imul, 1) := by decide +kernel
theorem dL_plans_119 : decode cL_plans 119 = .ok (.iaload, 1) := by decide +kernel
theorem dL_plans_120 : decode cL_plans 120 = .ok (.iconst 2, 1) := by decide +kernel
theorem dL_plans_121 : decode cL_plans 121 = .ok (.if_icmp .ge 42, 3) := by decide +kernel
theorem dL_plans_124 : decode cL_plans 124 = .ok (.iload 13, 2) := by decide +kernel
theorem dL_plans_126 : decode cL_plans 126 = .ok (.iload 14, 2) := by decide +kernel
theorem dL_plans_128 : decode cL_plans 128 = .ok (.aload_n 3, 1) := by decide +kernel
theorem dL_plans_129 : decode cL_plans 129 = .ok (.aload 8, 2) := by decide +kernel
theorem dL_plans_131 : decode cL_plans 131 = .ok (.invokestatic 69, 3) := by decide +kernel
theorem dL_plans_134 : decode cL_plans 134 = .ok (.ifCond .eq 29, 3) := by decide +kernel
theorem dL_plans_137 : decode cL_plans 137 = .ok (.iload 13, 2) := by decide +kernel
theorem dL_plans_139 : decode cL_plans 139 = .ok (.iload 10, 2) := by decide +kernel
theorem dL_plans_141 : decode cL_plans 141 = .ok (.iload 14, 2) := by decide +kernel
theorem dL_plans_143 : decode cL_plans 143 = .ok (.iload 11, 2) := by decide +kernel
theorem dL_plans_145 : decode cL_plans 145 = .ok (.iload 12, 2) := by decide +kernel
theorem dL_plans_147 : decode cL_plans 147 = .ok (.iconst (-1), 1) := by decide +kernel
theorem dL_plans_148 : decode cL_plans 148 = .ok (.aload_n 3, 1) := by decide +kernel
theorem dL_plans_149 : decode cL_plans 149 = .ok (.aload 4, 2) := by decide +kernel
theorem dL_plans_151 : decode cL_plans 151 = .ok (.aload 9, 2) := by decide +kernel
theorem dL_plans_153 : decode cL_plans 153 = .ok (.invokestatic 73, 3) := by decide +kernel
theorem dL_plans_156 : decode cL_plans 156 = .ok (.ifCond .ne 7, 3) := by decide +kernel
theorem dL_plans_159 : decode cL_plans 159 = .ok (.iconst 1, 1) := by decide +kernel
theorem dL_plans_160 : decode cL_plans 160 = .ok (.goto 4, 3) := by decide +kernel
theorem dL_plans_163 : decode cL_plans 163 = .ok (.iconst 0, 1) := by decide +kernel
theorem dL_plans_164 : decode cL_plans 164 = .ok (.istore 15, 2) := by decide +kernel
theorem dL_plans_166 : decode cL_plans 166 = .ok (.iload 11, 2) := by decide +kernel
theorem dL_plans_168 : decode cL_plans 168 = .ok (.aload 9, 2) := by decide +kernel
theorem dL_plans_170 : decode cL_plans 170 = .ok (.iconst 2, 1) := by decide +kernel
theorem dL_plans_171 : decode cL_plans 171 = .ok (.iaload, 1) := by decide +kernel
theorem dL_plans_172 : decode cL_plans 172 = .ok (.if_icmp .gt 8, 3) := by decide +kernel
theorem dL_plans_175 : decode cL_plans 175 = .ok (.ldc 43, 2) := by decide +kernel
theorem dL_plans_177 : decode cL_plans 177 = .ok (.goto 17, 3) := by decide +kernel
theorem dL_plans_180 : decode cL_plans 180 = .ok (.iload 15, 2) := by decide +kernel
theorem dL_plans_182 : decode cL_plans 182 = .ok (.ifCond .eq 10, 3) := by decide +kernel
theorem dL_plans_185 : decode cL_plans 185 = .ok (.aload 9, 2) := by decide +kernel
theorem dL_plans_187 : decode cL_plans 187 = .ok (.iconst 1, 1) := by decide +kernel
theorem dL_plans_188 : decode cL_plans 188 = .ok (.iaload, 1) := by decide +kernel
theorem dL_plans_189 : decode cL_plans 189 = .ok (.goto 5, 3) := by decide +kernel
theorem dL_plans_192 : decode cL_plans 192 = .ok (.ldc 46, 2) := by decide +kernel
theorem dL_plans_194 : decode cL_plans 194 = .ok (.istore 16, 2) := by decide +kernel
theorem dL_plans_196 : decode cL_plans 196 = .ok (.iload 16, 2) := by decide +kernel
theorem dL_plans_198 : decode cL_plans 198 = .ok (.ifCond .lt 90, 3) := by decide +kernel
theorem dL_plans_201 : decode cL_plans 201 = .ok (.aload 9, 2) := by decide +kernel
theorem dL_plans_203 : decode cL_plans 203 = .ok (.iconst 1, 1) := by decide +kernel
theorem dL_plans_204 : decode cL_plans 204 = .ok (.iaload, 1) := by decide +kernel
theorem dL_plans_205 : decode cL_plans 205 = .ok (.istore 17, 2) := by decide +kernel
theorem dL_plans_207 : decode cL_plans 207 = .ok (.aload 4, 2) := by decide +kernel
theorem dL_plans_209 : decode cL_plans 209 = .ok (.iconst 4, 1) := by decide +kernel
theorem dL_plans_210 : decode cL_plans 210 = .ok (.iload 17, 2) := by decide +kernel
theorem dL_plans_212 : decode cL_plans 212 = .ok (.imul, 1) := by decide +kernel
theorem dL_plans_213 : decode cL_plans 213 = .ok (.iconst 0, 1) := by decide +kernel
theorem dL_plans_214 : decode cL_plans 214 = .ok (.iastore, 1) := by decide +kernel
theorem dL_plans_215 : decode cL_plans 215 = .ok (.aload 4, 2) := by decide +kernel
theorem dL_plans_217 : decode cL_plans 217 = .ok (.iconst 4, 1) := by decide +kernel
theorem dL_plans_218 : decode cL_plans 218 = .ok (.iload 17, 2) := by decide +kernel
theorem dL_plans_220 : decode cL_plans 220 = .ok (.imul, 1) := by decide +kernel
theorem dL_plans_221 : decode cL_plans 221 = .ok (.iconst 1, 1) := by decide +kernel
theorem dL_plans_222 : decode cL_plans 222 = .ok (.iadd, 1) := by decide +kernel
theorem dL_plans_223 : decode cL_plans 223 = .ok (.iload 13, 2) := by decide +kernel
theorem dL_plans_225 : decode cL_plans 225 = .ok (.bipush 16, 2) := by decide +kernel
theorem dL_plans_227 : decode cL_plans 227 = .ok (.iload 10, 2) := by decide +kernel
theorem dL_plans_229 : decode cL_plans 229 = .ok (.imul, 1) := by decide +kernel
theorem dL_plans_230 : decode cL_plans 230 = .ok (.iadd, 1) := by decide +kernel
theorem dL_plans_231 : decode cL_plans 231 = .ok (.bipush 64, 2) := by decide +kernel
theorem dL_plans_233 : decode cL_plans 233 = .ok (.iload 14, 2) := by decide +kernel
theorem dL_plans_235 : decode cL_plans 235 = .ok (.iconst 1, 1) := by decide +kernel
theorem dL_plans_236 : decode cL_plans 236 = .ok (.iadd, 1) := by decide +kernel
theorem dL_plans_237 : decode cL_plans 237 = .ok (.imul, 1) := by decide +kernel
theorem dL_plans_238 : decode cL_plans 238 = .ok (.iadd, 1) := by decide +kernel
theorem dL_plans_239 : decode cL_plans 239 = .ok (.iastore, 1) := by decide +kernel
theorem dL_plans_240 : decode cL_plans 240 = .ok (.aload 4, 2) := by decide +kernel
theorem dL_plans_242 : decode cL_plans 242 = .ok (.iconst 4, 1) := by decide +kernel
theorem dL_plans_243 : decode cL_plans 243 = .ok (.iload 17, 2) := by decide +kernel
theorem dL_plans_245 : decode cL_plans 245 = .ok (.imul, 1) := by decide +kernel
theorem dL_plans_246 : decode cL_plans 246 = .ok (.iconst 2, 1) := by decide +kernel
theorem dL_plans_247 : decode cL_plans 247 = .ok (.iadd, 1) := by decide +kernel
theorem dL_plans_248 : decode cL_plans 248 = .ok (.iload 11, 2) := by decide +kernel
theorem dL_plans_250 : decode cL_plans 250 = .ok (.iastore, 1) := by decide +kernel
theorem dL_plans_251 : decode cL_plans 251 = .ok (.aload 4, 2) := by decide +kernel
theorem dL_plans_253 : decode cL_plans 253 = .ok (.iconst 4, 1) := by decide +kernel
theorem dL_plans_254 : decode cL_plans 254 = .ok (.iload 17, 2) := by decide +kernel
theorem dL_plans_256 : decode cL_plans 256 = .ok (.imul, 1) := by decide +kernel
theorem dL_plans_257 : decode cL_plans 257 = .ok (.iconst 3, 1) := by decide +kernel
theorem dL_plans_258 : decode cL_plans 258 = .ok (.iadd, 1) := by decide +kernel
theorem dL_plans_259 : decode cL_plans 259 = .ok (.iload 12, 2) := by decide +kernel
theorem dL_plans_261 : decode cL_plans 261 = .ok (.iastore, 1) := by decide +kernel
theorem dL_plans_262 : decode cL_plans 262 = .ok (.aload 9, 2) := by decide +kernel
theorem dL_plans_264 : decode cL_plans 264 = .ok (.iconst 1, 1) := by decide +kernel
theorem dL_plans_265 : decode cL_plans 265 = .ok (.dup2, 1) := by decide +kernel
theorem dL_plans_266 : decode cL_plans 266 = .ok (.iaload, 1) := by decide +kernel
theorem dL_plans_267 : decode cL_plans 267 = .ok (.iconst 1, 1) := by decide +kernel
theorem dL_plans_268 : decode cL_plans 268 = .ok (.iadd, 1) := by decide +kernel
theorem dL_plans_269 : decode cL_plans 269 = .ok (.iastore, 1) := by decide +kernel
theorem dL_plans_270 : decode cL_plans 270 = .ok (.iload 17, 2) := by decide +kernel
theorem dL_plans_272 : decode cL_plans 272 = .ok (.aload_n 3, 1) := by decide +kernel
theorem dL_plans_273 : decode cL_plans 273 = .ok (.aload 4, 2) := by decide +kernel
theorem dL_plans_275 : decode cL_plans 275 = .ok (.aload 5, 2) := by decide +kernel
theorem dL_plans_277 : decode cL_plans 277 = .ok (.aload 6, 2) := by decide +kernel
theorem dL_plans_279 : decode cL_plans 279 = .ok (.aload 7, 2) := by decide +kernel
theorem dL_plans_281 : decode cL_plans 281 = .ok (.aload 8, 2) := by decide +kernel
theorem dL_plans_283 : decode cL_plans 283 = .ok (.aload 9, 2) := by decide +kernel
theorem dL_plans_285 : decode cL_plans 285 = .ok (.invokestatic 77, 3) := by decide +kernel
theorem dL_plans_288 : decode cL_plans 288 = .ok (.aload_n 0, 1) := by decide +kernel
theorem dL_plans_289 : decode cL_plans 289 = .ok (.iconst 0, 1) := by decide +kernel
theorem dL_plans_290 : decode cL_plans 290 = .ok (.iload 13, 2) := by decide +kernel
theorem dL_plans_292 : decode cL_plans 292 = .ok (.iload 10, 2) := by decide +kernel
theorem dL_plans_294 : decode cL_plans 294 = .ok (.iload 14, 2) := by decide +kernel
theorem dL_plans_296 : decode cL_plans 296 = .ok (.iload 11, 2) := by decide +kernel
theorem dL_plans_298 : decode cL_plans 298 = .ok (.iload 12, 2) := by decide +kernel
theorem dL_plans_300 : decode cL_plans 300 = .ok (.invokestatic 81, 3) := by decide +kernel
theorem dL_plans_303 : decode cL_plans 303 = .ok (.iload 16, 2) := by decide +kernel
theorem dL_plans_305 : decode cL_plans 305 = .ok (.if_icmp .ne 7, 3) := by decide +kernel
theorem dL_plans_308 : decode cL_plans 308 = .ok (.iconst 1, 1) := by decide +kernel
theorem dL_plans_309 : decode cL_plans 309 = .ok (.goto 4, 3) := by decide +kernel
theorem dL_plans_312 : decode cL_plans 312 = .ok (.iconst 0, 1) := by decide +kernel
theorem dL_plans_313 : decode cL_plans 313 = .ok (.ireturn, 1) := by decide +kernel
theorem dL_plans_314 : decode cL_plans 314 = .ok (.aload 9, 2) := by decide +kernel
theorem dL_plans_316 : decode cL_plans 316 = .ok (.iconst 1, 1) := by decide +kernel
theorem dL_plans_317 : decode cL_plans 317 = .ok (.iaload, 1) := by decide +kernel
theorem dL_plans_318 : decode cL_plans 318 = .ok (.ifCond .ne 5, 3) := by decide +kernel
theorem dL_plans_321 : decode cL_plans 321 = .ok (.iconst 1, 1) := by decide +kernel
theorem dL_plans_322 : decode cL_plans 322 = .ok (.ireturn, 1) := by decide +kernel
theorem dL_plans_323 : decode cL_plans 323 = .ok (.iload_n 2, 1) := by decide +kernel
theorem dL_plans_324 : decode cL_plans 324 = .ok (.bipush 8, 2) := by decide +kernel
theorem dL_plans_326 : decode cL_plans 326 = .ok (.ishr, 1) := by decide +kernel
theorem dL_plans_327 : decode cL_plans 327 = .ok (.iconst 2, 1) := by decide +kernel
theorem dL_plans_328 : decode cL_plans 328 = .ok (.invokestatic 65, 3) := by decide +kernel
theorem dL_plans_331 : decode cL_plans 331 = .ok (.ifCond .ne 12, 3) := by decide +kernel
theorem dL_plans_334 : decode cL_plans 334 = .ok (.aload 9, 2) := by decide +kernel
theorem dL_plans_336 : decode cL_plans 336 = .ok (.iconst 1, 1) := by decide +kernel
theorem dL_plans_337 : decode cL_plans 337 = .ok (.iaload, 1) := by decide +kernel
theorem dL_plans_338 : decode cL_plans 338 = .ok (.iconst 1, 1) := by decide +kernel
theorem dL_plans_339 : decode cL_plans 339 = .ok (.isub, 1) := by decide +kernel
theorem dL_plans_340 : decode cL_plans 340 = .ok (.goto 14, 3) := by decide +kernel
theorem dL_plans_343 : decode cL_plans 343 = .ok (.iload_n 2, 1) := by decide +kernel
theorem dL_plans_344 : decode cL_plans 344 = .ok (.bipush 9, 2) := by decide +kernel
theorem dL_plans_346 : decode cL_plans 346 = .ok (.ishr, 1) := by decide +kernel
theorem dL_plans_347 : decode cL_plans 347 = .ok (.aload 9, 2) := by decide +kernel
theorem dL_plans_349 : decode cL_plans 349 = .ok (.iconst 1, 1) := by decide +kernel
theorem dL_plans_350 : decode cL_plans 350 = .ok (.iaload, 1) := by decide +kernel
theorem dL_plans_351 : decode cL_plans 351 = .ok (.invokestatic 65, 3) := by decide +kernel
theorem dL_plans_354 : decode cL_plans 354 = .ok (.istore 13, 2) := by decide +kernel
theorem dL_plans_356 : decode cL_plans 356 = .ok (.aload 4, 2) := by decide +kernel
theorem dL_plans_358 : decode cL_plans 358 = .ok (.iconst 4, 1) := by decide +kernel
theorem dL_plans_359 : decode cL_plans 359 = .ok (.iload 13, 2) := by decide +kernel
theorem dL_plans_361 : decode cL_plans 361 = .ok (.imul, 1) := by decide +kernel
theorem dL_plans_362 : decode cL_plans 362 = .ok (.iconst 1, 1) := by decide +kernel
theorem dL_plans_363 : decode cL_plans 363 = .ok (.iadd, 1) := by decide +kernel
theorem dL_plans_364 : decode cL_plans 364 = .ok (.iaload, 1) := by decide +kernel
theorem dL_plans_365 : decode cL_plans 365 = .ok (.bipush 16, 2) := by decide +kernel
theorem dL_plans_367 : decode cL_plans 367 = .ok (.irem, 1) := by decide +kernel
theorem dL_plans_368 : decode cL_plans 368 = .ok (.istore 14, 2) := by decide +kernel
theorem dL_plans_370 : decode cL_plans 370 = .ok (.aload 4, 2) := by decide +kernel
theorem dL_plans_372 : decode cL_plans 372 = .ok (.iconst 4, 1) := by decide +kernel
theorem dL_plans_373 : decode cL_plans 373 = .ok (.iload 13, 2) := by decide +kernel
theorem dL_plans_375 : decode cL_plans 375 = .ok (.imul, 1) := by decide +kernel
theorem dL_plans_376 : decode cL_plans 376 = .ok (.iaload, 1) := by decide +kernel
theorem dL_plans_377 : decode cL_plans 377 = .ok (.ifCond .ne 23, 3) := by decide +kernel
theorem dL_plans_380 : decode cL_plans 380 = .ok (.aload 4, 2) := by decide +kernel
theorem dL_plans_382 : decode cL_plans 382 = .ok (.iconst 4, 1) := by decide +kernel
theorem dL_plans_383 : decode cL_plans 383 = .ok (.iload 13, 2) := by decide +kernel
theorem dL_plans_385 : decode cL_plans 385 = .ok (.imul, 1) := by decide +kernel
theorem dL_plans_386 : decode cL_plans 386 = .ok (.iconst 2, 1) := by decide +kernel
theorem dL_plans_387 : decode cL_plans 387 = .ok (.iadd, 1) := by decide +kernel
theorem dL_plans_388 : decode cL_plans 388 = .ok (.iaload, 1) := by decide +kernel
theorem dL_plans_389 : decode cL_plans 389 = .ok (.aload 9, 2) := by decide +kernel
theorem dL_plans_391 : decode cL_plans 391 = .ok (.iconst 2, 1) := by decide +kernel
theorem dL_plans_392 : decode cL_plans 392 = .ok (.iaload, 1) := by decide +kernel
theorem dL_plans_393 : decode cL_plans 393 = .ok (.if_icmp .le 7, 3) := by decide +kernel
theorem dL_plans_396 : decode cL_plans 396 = .ok (.iconst 1, 1) := by decide +kernel
theorem dL_plans_397 : decode cL_plans 397 = .ok (.goto 4, 3) := by decide +kernel
theorem dL_plans_400 : decode cL_plans 400 = .ok (.iconst 0, 1) := by decide +kernel
theorem dL_plans_401 : decode cL_plans 401 = .ok (.istore 15, 2) := by decide +kernel
theorem dL_plans_403 : decode cL_plans 403 = .ok (.iload_n 1, 1) := by decide +kernel
theorem dL_plans_404 : decode cL_plans 404 = .ok (.iconst 1, 1) := by decide +kernel
theorem dL_plans_405 : decode cL_plans 405 = .ok (.if_icmp .ne 255, 3) := by decide +kernel
theorem dL_plans_408 : decode cL_plans 408 = .ok (.iload_n 2, 1) := by decide +kernel
theorem dL_plans_409 : decode cL_plans 409 = .ok (.bipush 6, 2) := by decide +kernel
theorem dL_plans_411 : decode cL_plans 411 = .ok (.ishr, 1) := by decide +kernel
theorem dL_plans_412 : decode cL_plans 412 = .ok (.iconst 3, 1) := by decide +kernel
theorem dL_plans_413 : decode cL_plans 413 = .ok (.invokestatic 65, 3) := by decide +kernel
theorem dL_plans_416 : decode cL_plans 416 = .ok (.ifCond .le 13, 3) := by decide +kernel
theorem dL_plans_419 : decode cL_plans 419 = .ok (.iload 13, 2) := by decide +kernel
theorem dL_plans_421 : decode cL_plans 421 = .ok (.aload 4, 2) := by decide +kernel
theorem dL_plans_423 : decode cL_plans 423 = .ok (.invokestatic 47, 3) := by decide +kernel
theorem dL_plans_426 : decode cL_plans 426 = .ok (.goto 13, 3) := by decide +kernel
theorem dL_plans_429 : decode cL_plans 429 = .ok (.iload_n 2, 1) := by decide +kernel
theorem dL_plans_430 : decode cL_plans 430 = .ok (.bipush 7, 2) := by decide +kernel
theorem dL_plans_432 : decode cL_plans 432 = .ok (.ishr, 1) := by decide +kernel
theorem dL_plans_433 : decode cL_plans 433 = .ok (.iconst 5, 1) := by decide +kernel
theorem dL_plans_434 : decode cL_plans 434 = .ok (.invokestatic 65, 3) := by decide +kernel
theorem dL_plans_437 : decode cL_plans 437 = .ok (.iconst 1, 1) := by decide +kernel
theorem dL_plans_438 : decode cL_plans 438 = .ok (.isub, 1) := by decide +kernel
theorem dL_plans_439 : decode cL_plans 439 = .ok (.istore 16, 2) := by decide +kernel
theorem dL_plans_441 : decode cL_plans 441 = .ok (.iload 15, 2) := by decide +kernel
theorem dL_plans_443 : decode cL_plans 443 = .ok (.ifCond .eq 53, 3) := by decide +kernel
theorem dL_plans_446 : decode cL_plans 446 = .ok (.iload 14, 2) := by decide +kernel
theorem dL_plans_448 : decode cL_plans 448 = .ok (.iload 16, 2) := by decide +kernel
theorem dL_plans_450 : decode cL_plans 450 = .ok (.aload_n 3, 1) := by decide +kernel
theorem dL_plans_451 : decode cL_plans 451 = .ok (.aload 8, 2) := by decide +kernel
theorem dL_plans_453 : decode cL_plans 453 = .ok (.invokestatic 69, 3) := by decide +kernel
theorem dL_plans_456 : decode cL_plans 456 = .ok (.ifCond .eq 40, 3) := by decide +kernel
theorem dL_plans_459 : decode cL_plans 459 = .ok (.iload 14, 2) := by decide +kernel
theorem dL_plans_461 : decode cL_plans 461 = .ok (.iload 10, 2) := by decide +kernel
theorem dL_plans_463 : decode cL_plans 463 = .ok (.iload 16, 2) := by decide +kernel
theorem dL_plans_465 : decode cL_plans 465 = .ok (.iload 11, 2) := by decide +kernel
theorem dL_plans_467 : decode cL_plans 467 = .ok (.aload 4, 2) := by decide +kernel
theorem dL_plans_469 : decode cL_plans 469 = .ok (.iconst 4, 1) := by decide +kernel
theorem dL_plans_470 : decode cL_plans 470 = .ok (.iload 13, 2) := by decide +kernel
theorem dL_plans_472 : decode cL_plans 472 = .ok (.imul, 1) := by decide +kernel
theorem dL_plans_473 : decode cL_plans 473 = .ok (.iconst 3, 1) := by decide +kernel
theorem dL_plans_474 : decode cL_plans 474 = .ok (.iadd, 1) := by decide +kernel
theorem dL_plans_475 : decode cL_plans 475 = .ok (.iaload, 1) := by decide +kernel
theorem dL_plans_476 : decode cL_plans 476 = .ok (.bipush 16, 2) := by decide +kernel
theorem dL_plans_478 : decode cL_plans 478 = .ok (.irem, 1) := by decide +kernel
theorem dL_plans_479 : decode cL_plans 479 = .ok (.iload 13, 2) := by decide +kernel
theorem dL_plans_481 : decode cL_plans 481 = .ok (.aload_n 3, 1) := by decide +kernel
theorem dL_plans_482 : decode cL_plans 482 = .ok (.aload 4, 2) := by decide +kernel
theorem dL_plans_484 : decode cL_plans 484 = .ok (.aload 9, 2) := by decide +kernel
theorem dL_plans_486 : decode cL_plans 486 = .ok (.invokestatic 73, 3) := by decide +kernel
theorem dL_plans_489 : decode cL_plans 489 = .ok (.ifCond .ne 7, 3) := by decide +kernel
theorem dL_plans_492 : decode cL_plans 492 = .ok (.iconst 1, 1) := by decide +kernel
theorem dL_plans_493 : decode cL_plans 493 = .ok (.goto 4, 3) := by decide +kernel
theorem dL_plans_496 : decode cL_plans 496 = .ok (.iconst 0, 1) := by decide +kernel
theorem dL_plans_497 : decode cL_plans 497 = .ok (.istore 17, 2) := by decide +kernel
theorem dL_plans_499 : decode cL_plans 499 = .ok (.iload 17, 2) := by decide +kernel
theorem dL_plans_501 : decode cL_plans 501 = .ok (.ifCond .eq 103, 3) := by decide +kernel
theorem dL_plans_504 : decode cL_plans 504 = .ok (.iload 11, 2) := by decide +kernel
theorem dL_plans_506 : decode cL_plans 506 = .ok (.aload 9, 2) := by decide +kernel
theorem dL_plans_508 : decode cL_plans 508 = .ok (.iconst 2, 1) := by decide +kernel
theorem dL_plans_509 : decode cL_plans 509 = .ok (.iaload, 1) := by decide +kernel
theorem dL_plans_510 : decode cL_plans 510 = .ok (.if_icmp .le 94, 3) := by decide +kernel
theorem dL_plans_513 : decode cL_plans 513 = .ok (.iload 13, 2) := by decide +kernel
theorem dL_plans_515 : decode cL_plans 515 = .ok (.aload_n 3, 1) := by decide +kernel
theorem dL_plans_516 : decode cL_plans 516 = .ok (.aload 4, 2) := by decide +kernel
theorem dL_plans_518 : decode cL_plans 518 = .ok (.aload 5, 2) := by decide +kernel
theorem dL_plans_520 : decode cL_plans 520 = .ok (.aload 6, 2) := by decide +kernel
theorem dL_plans_522 : decode cL_plans 522 = .ok (.aload 7, 2) := by decide +kernel
theorem dL_plans_524 : decode cL_plans 524 = .ok (.aload 9, 2) := by decide +kernel
theorem dL_plans_526 : decode cL_plans 526 = .ok (.invokestatic 85, 3) := by decide +kernel
theorem dL_plans_529 : decode cL_plans 529 = .ok (.aload 4, 2) := by decide +kernel
theorem dL_plans_531 : decode cL_plans 531 = .ok (.iconst 4, 1) := by decide +kernel
theorem dL_plans_532 : decode cL_plans 532 = .ok (.iload 13, 2) := by decide +kernel
theorem dL_plans_534 : decode cL_plans 534 = .ok (.imul, 1) := by decide +kernel
theorem dL_plans_535 : decode cL_plans 535 = .ok (.iconst 1, 1) := by decide +kernel
theorem dL_plans_536 : decode cL_plans 536 = .ok (.iadd, 1) := by decide +kernel
theorem dL_plans_537 : decode cL_plans 537 = .ok (.iload 14, 2) := by decide +kernel
theorem dL_plans_539 : decode cL_plans 539 = .ok (.bipush 16, 2) := by decide +kernel
theorem dL_plans_541 : decode cL_plans 541 = .ok (.iload 10, 2) := by decide +kernel
theorem dL_plans_543 : decode cL_plans 543 = .ok (.imul, 1) := by decide +kernel
theorem dL_plans_544 : decode cL_plans 544 = .ok (.iadd, 1) := by decide +kernel
theorem dL_plans_545 : decode cL_plans 545 = .ok (.bipush 64, 2) := by decide +kernel
theorem dL_plans_547 : decode cL_plans 547 = .ok (.iload 16, 2) := by decide +kernel
theorem dL_plans_549 : decode cL_plans 549 = .ok (.iconst 1, 1) := by decide +kernel
theorem dL_plans_550 : decode cL_plans 550 = .ok (.iadd, 1) := by decide +kernel
theorem dL_plans_551 : decode cL_plans 551 = .ok (.imul, 1) := by decide +kernel
theorem dL_plans_552 : decode cL_plans 552 = .ok (.iadd, 1) := by decide +kernel
theorem dL_plans_553 : decode cL_plans 553 = .ok (.iastore, 1) := by decide +kernel
theorem dL_plans_554 : decode cL_plans 554 = .ok (.aload 4, 2) := by decide +kernel
theorem dL_plans_556 : decode cL_plans 556 = .ok (.iconst 4, 1) := by decide +kernel
theorem dL_plans_557 : decode cL_plans 557 = .ok (.iload 13, 2) := by decide +kernel
theorem dL_plans_559 : decode cL_plans 559 = .ok (.imul, 1) := by decide +kernel
theorem dL_plans_560 : decode cL_plans 560 = .ok (.iconst 2, 1) := by decide +kernel
theorem dL_plans_561 : decode cL_plans 561 = .ok (.iadd, 1) := by decide +kernel
theorem dL_plans_562 : decode cL_plans 562 = .ok (.iload 11, 2) := by decide +kernel
theorem dL_plans_564 : decode cL_plans 564 = .ok (.iastore, 1) := by decide +kernel
theorem dL_plans_565 : decode cL_plans 565 = .ok (.aload 4, 2) := by decide +kernel
theorem dL_plans_567 : decode cL_plans 567 = .ok (.iconst 4, 1) := by decide +kernel
theorem dL_plans_568 : decode cL_plans 568 = .ok (.iload 13, 2) := by decide +kernel
theorem dL_plans_570 : decode cL_plans 570 = .ok (.imul, 1) := by decide +kernel
theorem dL_plans_571 : decode cL_plans 571 = .ok (.iconst 3, 1) := by decide +kernel
theorem dL_plans_572 : decode cL_plans 572 = .ok (.iadd, 1) := by decide +kernel
theorem dL_plans_573 : decode cL_plans 573 = .ok (.aload 4, 2) := by decide +kernel
theorem dL_plans_575 : decode cL_plans 575 = .ok (.iconst 4, 1) := by decide +kernel
theorem dL_plans_576 : decode cL_plans 576 = .ok (.iload 13, 2) := by decide +kernel
theorem dL_plans_578 : decode cL_plans 578 = .ok (.imul, 1) := by decide +kernel
theorem dL_plans_579 : decode cL_plans 579 = .ok (.iconst 3, 1) := by decide +kernel
theorem dL_plans_580 : decode cL_plans 580 = .ok (.iadd, 1) := by decide +kernel
theorem dL_plans_581 : decode cL_plans 581 = .ok (.iaload, 1) := by decide +kernel
theorem dL_plans_582 : decode cL_plans 582 = .ok (.bipush 16, 2) := by decide +kernel
theorem dL_plans_584 : decode cL_plans 584 = .ok (.irem, 1) := by decide +kernel
theorem dL_plans_585 : decode cL_plans 585 = .ok (.iastore, 1) := by decide +kernel
theorem dL_plans_586 : decode cL_plans 586 = .ok (.iload 13, 2) := by decide +kernel
theorem dL_plans_588 : decode cL_plans 588 = .ok (.aload_n 3, 1) := by decide +kernel
theorem dL_plans_589 : decode cL_plans 589 = .ok (.aload 4, 2) := by decide +kernel
theorem dL_plans_591 : decode cL_plans 591 = .ok (.aload 5, 2) := by decide +kernel
theorem dL_plans_593 : decode cL_plans 593 = .ok (.aload 6, 2) := by decide +kernel
theorem dL_plans_595 : decode cL_plans 595 = .ok (.aload 7, 2) := by decide +kernel
theorem dL_plans_597 : decode cL_plans 597 = .ok (.aload 8, 2) := by decide +kernel
theorem dL_plans_599 : decode cL_plans 599 = .ok (.aload 9, 2) := by decide +kernel
theorem dL_plans_601 : decode cL_plans 601 = .ok (.invokestatic 77, 3) := by decide +kernel
theorem dL_plans_604 : decode cL_plans 604 = .ok (.aload_n 0, 1) := by decide +kernel
theorem dL_plans_605 : decode cL_plans 605 = .ok (.iconst 1, 1) := by decide +kernel
theorem dL_plans_606 : decode cL_plans 606 = .ok (.iload 13, 2) := by decide +kernel
theorem dL_plans_608 : decode cL_plans 608 = .ok (.iload 10, 2) := by decide +kernel
theorem dL_plans_610 : decode cL_plans 610 = .ok (.iload 16, 2) := by decide +kernel
theorem dL_plans_612 : decode cL_plans 612 = .ok (.iload 11, 2) := by decide +kernel
theorem dL_plans_614 : decode cL_plans 614 = .ok (.iconst 0, 1) := by decide +kernel
theorem dL_plans_615 : decode cL_plans 615 = .ok (.invokestatic 81, 3) := by decide +kernel
theorem dL_plans_618 : decode cL_plans 618 = .ok (.iload 11, 2) := by decide +kernel
theorem dL_plans_620 : decode cL_plans 620 = .ok (.aload 9, 2) := by decide +kernel
theorem dL_plans_622 : decode cL_plans 622 = .ok (.iconst 2, 1) := by decide +kernel
theorem dL_plans_623 : decode cL_plans 623 = .ok (.iaload, 1) := by decide +kernel
theorem dL_plans_624 : decode cL_plans 624 = .ok (.if_icmp .gt 8, 3) := by decide +kernel
theorem dL_plans_627 : decode cL_plans 627 = .ok (.ldc 43, 2) := by decide +kernel
theorem dL_plans_629 : decode cL_plans 629 = .ok (.goto 22, 3) := by decide +kernel
theorem dL_plans_632 : decode cL_plans 632 = .ok (.iload 17, 2) := by decide +kernel
theorem dL_plans_634 : decode cL_plans 634 = .ok (.ifCond .eq 15, 3) := by decide +kernel
theorem dL_plans_637 : decode cL_plans 637 = .ok (.aload_n 3, 1) := by decide +kernel
theorem dL_plans_638 : decode cL_plans 638 = .ok (.bipush 8, 2) := by decide +kernel
theorem dL_plans_640 : decode cL_plans 640 = .ok (.iload 14, 2) := by decide +kernel
theorem dL_plans_642 : decode cL_plans 642 = .ok (.imul, 1) := by decide +kernel
theorem dL_plans_643 : decode cL_plans 643 = .ok (.iconst 5, 1) := by decide +kernel
theorem dL_plans_644 : decode cL_plans 644 = .ok (.iadd, 1) := by decide +kernel
theorem dL_plans_645 : decode cL_plans 645 = .ok (.iaload, 1) := by decide +kernel
theorem dL_plans_646 : decode cL_plans 646 = .ok (.goto 5, 3) := by decide +kernel
theorem dL_plans_649 : decode cL_plans 649 = .ok (.ldc 46, 2) := by decide +kernel
theorem dL_plans_651 : decode cL_plans 651 = .ok (.if_icmp .ne 7, 3) := by decide +kernel
theorem dL_plans_654 : decode cL_plans 654 = .ok (.iconst 1, 1) := by decide +kernel
theorem dL_plans_655 : decode cL_plans 655 = .ok (.goto 4, 3) := by decide +kernel
theorem dL_plans_658 : decode cL_plans 658 = .ok (.iconst 0, 1) := by decide +kernel
theorem dL_plans_659 : decode cL_plans 659 = .ok (.ireturn, 1) := by decide +kernel
theorem dL_plans_660 : decode cL_plans 660 = .ok (.iload_n 1, 1) := by decide +kernel
theorem dL_plans_661 : decode cL_plans 661 = .ok (.iconst 2, 1) := by decide +kernel
theorem dL_plans_662 : decode cL_plans 662 = .ok (.if_icmp .ne 71, 3) := by decide +kernel
theorem dL_plans_665 : decode cL_plans 665 = .ok (.iload 15, 2) := by decide +kernel
theorem dL_plans_667 : decode cL_plans 667 = .ok (.ifCond .eq 27, 3) := by decide +kernel
theorem dL_plans_670 : decode cL_plans 670 = .ok (.iload 13, 2) := by decide +kernel
theorem dL_plans_672 : decode cL_plans 672 = .ok (.aload_n 3, 1) := by decide +kernel
theorem dL_plans_673 : decode cL_plans 673 = .ok (.aload 4, 2) := by decide +kernel
theorem dL_plans_675 : decode cL_plans 675 = .ok (.aload 5, 2) := by decide +kernel
theorem dL_plans_677 : decode cL_plans 677 = .ok (.aload 6, 2) := by decide +kernel
theorem dL_plans_679 : decode cL_plans 679 = .ok (.aload 7, 2) := by decide +kernel
theorem dL_plans_681 : decode cL_plans 681 = .ok (.aload 9, 2) := by decide +kernel
theorem dL_plans_683 : decode cL_plans 683 = .ok (.invokestatic 85, 3) := by decide +kernel
theorem dL_plans_686 : decode cL_plans 686 = .ok (.aload 4, 2) := by decide +kernel
theorem dL_plans_688 : decode cL_plans 688 = .ok (.iconst 4, 1) := by decide +kernel
theorem dL_plans_689 : decode cL_plans 689 = .ok (.iload 13, 2) := by decide +kernel
theorem dL_plans_691 : decode cL_plans 691 = .ok (.imul, 1) := by decide +kernel
theorem dL_plans_692 : decode cL_plans 692 = .ok (.iconst 3, 1) := by decide +kernel
theorem dL_plans_693 : decode cL_plans 693 = .ok (.iastore, 1) := by decide +kernel
theorem dL_plans_694 : decode cL_plans 694 = .ok (.aload_n 0, 1) := by decide +kernel
theorem dL_plans_695 : decode cL_plans 695 = .ok (.iconst 2, 1) := by decide +kernel
theorem dL_plans_696 : decode cL_plans 696 = .ok (.iload 13, 2) := by decide +kernel
theorem dL_plans_698 : decode cL_plans 698 = .ok (.iconst 0, 1) := by decide +kernel
theorem dL_plans_699 : decode cL_plans 699 = .ok (.iconst 0, 1) := by decide +kernel
theorem dL_plans_700 : decode cL_plans 700 = .ok (.iconst 0, 1) := by decide +kernel
theorem dL_plans_701 : decode cL_plans 701 = .ok (.iconst 0, 1) := by decide +kernel
theorem dL_plans_702 : decode cL_plans 702 = .ok (.invokestatic 81, 3) := by decide +kernel
theorem dL_plans_705 : decode cL_plans 705 = .ok (.iload 15, 2) := by decide +kernel
theorem dL_plans_707 : decode cL_plans 707 = .ok (.ifCond .eq 15, 3) := by decide +kernel
theorem dL_plans_710 : decode cL_plans 710 = .ok (.aload_n 3, 1) := by decide +kernel
theorem dL_plans_711 : decode cL_plans 711 = .ok (.bipush 8, 2) := by decide +kernel
theorem dL_plans_713 : decode cL_plans 713 = .ok (.iload 14, 2) := by decide +kernel
theorem dL_plans_715 : decode cL_plans 715 = .ok (.imul, 1) := by decide +kernel
theorem dL_plans_716 : decode cL_plans 716 = .ok (.iconst 5, 1) := by decide +kernel
theorem dL_plans_717 : decode cL_plans 717 = .ok (.iadd, 1) := by decide +kernel
theorem dL_plans_718 : decode cL_plans 718 = .ok (.iaload, 1) := by decide +kernel
theorem dL_plans_719 : decode cL_plans 719 = .ok (.goto 5, 3) := by decide +kernel
theorem dL_plans_722 : decode cL_plans 722 = .ok (.ldc 46, 2) := by decide +kernel
theorem dL_plans_724 : decode cL_plans 724 = .ok (.if_icmp .ne 7, 3) := by decide +kernel
theorem dL_plans_727 : decode cL_plans 727 = .ok (.iconst 1, 1) := by decide +kernel
theorem dL_plans_728 : decode cL_plans 728 = .ok (.goto 4, 3) := by decide +kernel
theorem dL_plans_731 : decode cL_plans 731 = .ok (.iconst 0, 1) := by decide +kernel
theorem dL_plans_732 : decode cL_plans 732 = .ok (.ireturn, 1) := by decide +kernel
theorem dL_plans_733 : decode cL_plans 733 = .ok (.iload_n 2, 1) := by decide +kernel
theorem dL_plans_734 : decode cL_plans 734 = .ok (.iconst 4, 1) := by decide +kernel
theorem dL_plans_735 : decode cL_plans 735 = .ok (.ishr, 1) := by decide +kernel
theorem dL_plans_736 : decode cL_plans 736 = .ok (.bipush 8, 2) := by decide +kernel
theorem dL_plans_738 : decode cL_plans 738 = .ok (.invokestatic 65, 3) := by decide +kernel
theorem dL_plans_741 : decode cL_plans 741 = .ok (.ifCond .ne 14, 3) := by decide +kernel
theorem dL_plans_744 : decode cL_plans 744 = .ok (.iload_n 2, 1) := by decide +kernel
theorem dL_plans_745 : decode cL_plans 745 = .ok (.iconst 5, 1) := by decide +kernel
theorem dL_plans_746 : decode cL_plans 746 = .ok (.ishr, 1) := by decide +kernel
theorem dL_plans_747 : decode cL_plans 747 = .ok (.bipush 6, 2) := by decide +kernel
theorem dL_plans_749 : decode cL_plans 749 = .ok (.invokestatic 65, 3) := by decide +kernel
theorem dL_plans_752 : decode cL_plans 752 = .ok (.goto 21, 3) := by decide +kernel
theorem dL_plans_755 : decode cL_plans 755 = .ok (.aload_n 3, 1) := by decide +kernel
theorem dL_plans_756 : decode cL_plans 756 = .ok (.bipush 8, 2) := by decide +kernel
theorem dL_plans_758 : decode cL_plans 758 = .ok (.iload 14, 2) := by decide +kernel
theorem dL_plans_760 : decode cL_plans 760 = .ok (.imul, 1) := by decide +kernel
theorem dL_plans_761 : decode cL_plans 761 = .ok (.iconst 2, 1) := by decide +kernel
theorem dL_plans_762 : decode cL_plans 762 = .ok (.iadd, 1) := by decide +kernel
theorem dL_plans_763 : decode cL_plans 763 = .ok (.iload_n 2, 1) := by decide +kernel
theorem dL_plans_764 : decode cL_plans 764 = .ok (.bipush 6, 2) := by decide +kernel
theorem dL_plans_766 : decode cL_plans 766 = .ok (.ishr, 1) := by decide +kernel
theorem dL_plans_767 : decode cL_plans 767 = .ok (.iconst 2, 1) := by decide +kernel
theorem dL_plans_768 : decode cL_plans 768 = .ok (.invokestatic 65, 3) := by decide +kernel
theorem dL_plans_771 : decode cL_plans 771 = .ok (.iadd, 1) := by decide +kernel
theorem dL_plans_772 : decode cL_plans 772 = .ok (.iaload, 1) := by decide +kernel
theorem dL_plans_773 : decode cL_plans 773 = .ok (.istore 16, 2) := by decide +kernel
theorem dL_plans_775 : decode cL_plans 775 = .ok (.iload 16, 2) := by decide +kernel
theorem dL_plans_777 : decode cL_plans 777 = .ok (.aload_n 3, 1) := by decide +kernel
theorem dL_plans_778 : decode cL_plans 778 = .ok (.bipush 8, 2) := by decide +kernel
theorem dL_plans_780 : decode cL_plans 780 = .ok (.iload 14, 2) := by decide +kernel
theorem dL_plans_782 : decode cL_plans 782 = .ok (.imul, 1) := by decide +kernel
theorem dL_plans_783 : decode cL_plans 783 = .ok (.iconst 2, 1) := by decide +kernel
theorem dL_plans_784 : decode cL_plans 784 = .ok (.iadd, 1) := by decide +kernel
theorem dL_plans_785 : decode cL_plans 785 = .ok (.iaload, 1) := by decide +kernel
theorem dL_plans_786 : decode cL_plans 786 = .ok (.if_icmp .ne 7, 3) := by decide +kernel
theorem dL_plans_789 : decode cL_plans 789 = .ok (.iconst 1, 1) := by decide +kernel
theorem dL_plans_790 : decode cL_plans 790 = .ok (.goto 22, 3) := by decide +kernel
theorem dL_plans_793 : decode cL_plans 793 = .ok (.iload 16, 2) := by decide +kernel
theorem dL_plans_795 : decode cL_plans 795 = .ok (.aload_n 3, 1) := by decide +kernel
theorem dL_plans_796 : decode cL_plans 796 = .ok (.bipush 8, 2) := by decide +kernel
theorem dL_plans_798 : decode cL_plans 798 = .ok (.iload 14, 2) := by decide +kernel
theorem dL_plans_800 : decode cL_plans 800 = .ok (.imul, 1) := by decide +kernel
theorem dL_plans_801 : decode cL_plans 801 = .ok (.iconst 3, 1) := by decide +kernel
theorem dL_plans_802 : decode cL_plans 802 = .ok (.iadd, 1) := by decide +kernel
theorem dL_plans_803 : decode cL_plans 803 = .ok (.iaload, 1) := by decide +kernel
theorem dL_plans_804 : decode cL_plans 804 = .ok (.if_icmp .ne 7, 3) := by decide +kernel
theorem dL_plans_807 : decode cL_plans 807 = .ok (.iconst 2, 1) := by decide +kernel
theorem dL_plans_808 : decode cL_plans 808 = .ok (.goto 4, 3) := by decide +kernel
theorem dL_plans_811 : decode cL_plans 811 = .ok (.iconst 0, 1) := by decide +kernel
theorem dL_plans_812 : decode cL_plans 812 = .ok (.istore 17, 2) := by decide +kernel
theorem dL_plans_814 : decode cL_plans 814 = .ok (.iload 17, 2) := by decide +kernel
theorem dL_plans_816 : decode cL_plans 816 = .ok (.ifCond .ne 8, 3) := by decide +kernel
theorem dL_plans_819 : decode cL_plans 819 = .ok (.ldc 43, 2) := by decide +kernel
theorem dL_plans_821 : decode cL_plans 821 = .ok (.goto 41, 3) := by decide +kernel
theorem dL_plans_824 : decode cL_plans 824 = .ok (.aload 4, 2) := by decide +kernel
theorem dL_plans_826 : decode cL_plans 826 = .ok (.iconst 4, 1) := by decide +kernel
theorem dL_plans_827 : decode cL_plans 827 = .ok (.iload 13, 2) := by decide +kernel
theorem dL_plans_829 : decode cL_plans 829 = .ok (.imul, 1) := by decide +kernel
theorem dL_plans_830 : decode cL_plans 830 = .ok (.iaload, 1) := by decide +kernel
theorem dL_plans_831 : decode cL_plans 831 = .ok (.ifCond .le 8, 3) := by decide +kernel
theorem dL_plans_834 : decode cL_plans 834 = .ok (.ldc 46, 2) := by decide +kernel
theorem dL_plans_836 : decode cL_plans 836 = .ok (.goto 26, 3) := by decide +kernel
theorem dL_plans_839 : decode cL_plans 839 = .ok (.aload 4, 2) := by decide +kernel
theorem dL_plans_841 : decode cL_plans 841 = .ok (.iconst 4, 1) := by decide +kernel
theorem dL_plans_842 : decode cL_plans 842 = .ok (.iload 13, 2) := by decide +kernel
theorem dL_plans_844 : decode cL_plans 844 = .ok (.imul, 1) := by decide +kernel
theorem dL_plans_845 : decode cL_plans 845 = .ok (.iconst 2, 1) := by decide +kernel
theorem dL_plans_846 : decode cL_plans 846 = .ok (.iadd, 1) := by decide +kernel
theorem dL_plans_847 : decode cL_plans 847 = .ok (.iaload, 1) := by decide +kernel
theorem dL_plans_848 : decode cL_plans 848 = .ok (.aload 9, 2) := by decide +kernel
theorem dL_plans_850 : decode cL_plans 850 = .ok (.iconst 2, 1) := by decide +kernel
theorem dL_plans_851 : decode cL_plans 851 = .ok (.iaload, 1) := by decide +kernel
theorem dL_plans_852 : decode cL_plans 852 = .ok (.isub, 1) := by decide +kernel
theorem dL_plans_853 : decode cL_plans 853 = .ok (.iconst 3, 1) := by decide +kernel
theorem dL_plans_854 : decode cL_plans 854 = .ok (.if_icmp .le 7, 3) := by decide +kernel
theorem dL_plans_857 : decode cL_plans 857 = .ok (.iconst 1, 1) := by decide +kernel
theorem dL_plans_858 : decode cL_plans 858 = .ok (.goto 4, 3) := by decide +kernel
theorem dL_plans_861 : decode cL_plans 861 = .ok (.iconst 0, 1) := by decide +kernel
theorem dL_plans_862 : decode cL_plans 862 = .ok (.istore 18, 2) := by decide +kernel
theorem dL_plans_864 : decode cL_plans 864 = .ok (.aload 4, 2) := by decide +kernel
theorem dL_plans_866 : decode cL_plans 866 = .ok (.iconst 4, 1) := by decide +kernel
theorem dL_plans_867 : decode cL_plans 867 = .ok (.iload 13, 2) := by decide +kernel
theorem dL_plans_869 : decode cL_plans 869 = .ok (.imul, 1) := by decide +kernel
theorem dL_plans_870 : decode cL_plans 870 = .ok (.iconst 3, 1) := by decide +kernel
theorem dL_plans_871 : decode cL_plans 871 = .ok (.iadd, 1) := by decide +kernel
theorem dL_plans_872 : decode cL_plans 872 = .ok (.iaload, 1) := by decide +kernel
theorem dL_plans_873 : decode cL_plans 873 = .ok (.bipush 16, 2) := by decide +kernel
theorem dL_plans_875 : decode cL_plans 875 = .ok (.idiv, 1) := by decide +kernel
theorem dL_plans_876 : decode cL_plans 876 = .ok (.istore 19, 2) := by decide +kernel
theorem dL_plans_878 : decode cL_plans 878 = .ok (.aload 4, 2) := by decide +kernel
theorem dL_plans_880 : decode cL_plans 880 = .ok (.iconst 4, 1) := by decide +kernel
theorem dL_plans_881 : decode cL_plans 881 = .ok (.iload 13, 2) := by decide +kernel
theorem dL_plans_883 : decode cL_plans 883 = .ok (.imul, 1) := by decide +kernel
theorem dL_plans_884 : decode cL_plans 884 = .ok (.iconst 3, 1) := by decide +kernel
theorem dL_plans_885 : decode cL_plans 885 = .ok (.iadd, 1) := by decide +kernel
theorem dL_plans_886 : decode cL_plans 886 = .ok (.aload 4, 2) := by decide +kernel
theorem dL_plans_888 : decode cL_plans 888 = .ok (.iconst 4, 1) := by decide +kernel
theorem dL_plans_889 : decode cL_plans 889 = .ok (.iload 13, 2) := by decide +kernel
theorem dL_plans_891 : decode cL_plans 891 = .ok (.imul, 1) := by decide +kernel
theorem dL_plans_892 : decode cL_plans 892 = .ok (.iconst 3, 1) := by decide +kernel
theorem dL_plans_893 : decode cL_plans 893 = .ok (.iadd, 1) := by decide +kernel
theorem dL_plans_894 : decode cL_plans 894 = .ok (.iaload, 1) := by decide +kernel
theorem dL_plans_895 : decode cL_plans 895 = .ok (.bipush 16, 2) := by decide +kernel
theorem dL_plans_897 : decode cL_plans 897 = .ok (.irem, 1) := by decide +kernel
theorem dL_plans_898 : decode cL_plans 898 = .ok (.bipush 16, 2) := by decide +kernel
theorem dL_plans_900 : decode cL_plans 900 = .ok (.iload 18, 2) := by decide +kernel
theorem dL_plans_902 : decode cL_plans 902 = .ok (.iconst 1, 1) := by decide +kernel
theorem dL_plans_903 : decode cL_plans 903 = .ok (.if_icmp .ne 11, 3) := by decide +kernel
theorem dL_plans_906 : decode cL_plans 906 = .ok (.iload 19, 2) := by decide +kernel
theorem dL_plans_908 : decode cL_plans 908 = .ok (.iload 17, 2) := by decide +kernel
theorem dL_plans_910 : decode cL_plans 910 = .ok (.ior, 1) := by decide +kernel
theorem dL_plans_911 : decode cL_plans 911 = .ok (.goto 5, 3) := by decide +kernel
theorem dL_plans_914 : decode cL_plans 914 = .ok (.iload 19, 2) := by decide +kernel
theorem dL_plans_916 : decode cL_plans 916 = .ok (.imul, 1) := by decide +kernel
theorem dL_plans_917 : decode cL_plans 917 = .ok (.iadd, 1) := by decide +kernel
theorem dL_plans_918 : decode cL_plans 918 = .ok (.iastore, 1) := by decide +kernel
theorem dL_plans_919 : decode cL_plans 919 = .ok (.aload_n 0, 1) := by decide +kernel
theorem dL_plans_920 : decode cL_plans 920 = .ok (.bipush 7, 2) := by decide +kernel
theorem dL_plans_922 : decode cL_plans 922 = .ok (.iload 13, 2) := by decide +kernel
theorem dL_plans_924 : decode cL_plans 924 = .ok (.iload 16, 2) := by decide +kernel
theorem dL_plans_926 : decode cL_plans 926 = .ok (.iconst 0, 1) := by decide +kernel
theorem dL_plans_927 : decode cL_plans 927 = .ok (.iconst 0, 1) := by decide +kernel
theorem dL_plans_928 : decode cL_plans 928 = .ok (.iconst 0, 1) := by decide +kernel
theorem dL_plans_929 : decode cL_plans 929 = .ok (.invokestatic 81, 3) := by decide +kernel
theorem dL_plans_932 : decode cL_plans 932 = .ok (.iload 18, 2) := by decide +kernel
theorem dL_plans_934 : decode cL_plans 934 = .ok (.if_icmp .ne 7, 3) := by decide +kernel
theorem dL_plans_937 : decode cL_plans 937 = .ok (.iconst 1, 1) := by decide +kernel
theorem dL_plans_938 : decode cL_plans 938 = .ok (.goto 4, 3) := by decide +kernel
theorem dL_plans_941 : decode cL_plans 941 = .ok (.iconst 0, 1) := by decide +kernel
theorem dL_plans_942 : decode cL_plans 942 = .ok (.ireturn, 1) := by decide +kernel
theorem dL_matters_0 : decode cL_matters 0 = .ok (.iload_n 2, 1) := by decide +kernel
theorem dL_matters_1 : decode cL_matters 1 = .ok (.aload 9, 2) := by decide +kernel
theorem dL_matters_3 : decode cL_matters 3 = .ok (.iconst 0, 1) := by decide +kernel
theorem dL_matters_4 : decode cL_matters 4 = .ok (.iaload, 1) := by decide +kernel
theorem dL_matters_5 : decode cL_matters 5 = .ok (.invokestatic 65, 3) := by decide +kernel
theorem dL_matters_8 : decode cL_matters 8 = .ok (.istore 10, 2) := by decide +kernel
theorem dL_matters_10 : decode cL_matters 10 = .ok (.aload_n 3, 1) := by decide +kernel
theorem dL_matters_11 : decode cL_matters 11 = .ok (.bipush 8, 2) := by decide +kernel
theorem dL_matters_13 : decode cL_matters 13 = .ok (.iload 10, 2) := by decide +kernel
theorem dL_matters_15 : decode cL_matters 15 = .ok (.imul, 1) := by decide +kernel
theorem dL_matters_16 : decode cL_matters 16 = .ok (.iaload, 1) := by decide +kernel
theorem dL_matters_17 : decode cL_matters 17 = .ok (.istore 11, 2) := by decide +kernel
theorem dL_matters_19 : decode cL_matters 19 = .ok (.iload_n 1, 1) := by decide +kernel
theorem dL_matters_20 : decode cL_matters 20 = .ok (.ifCond .ne 136, 3) := by decide +kernel
theorem dL_matters_23 : decode cL_matters 23 = .ok (.iconst 0, 1) := by decide +kernel
theorem dL_matters_24 : decode cL_matters 24 = .ok (.istore 12, 2) := by decide +kernel
theorem dL_matters_26 : decode cL_matters 26 = .ok (.iconst 0, 1) := by decide +kernel
theorem dL_matters_27 : decode cL_matters 27 = .ok (.istore 13, 2) := by decide +kernel
theorem dL_matters_29 : decode cL_matters 29 = .ok (.iload 13, 2) := by decide +kernel
theorem dL_matters_31 : decode cL_matters 31 = .ok (.aload 9, 2) := by decide +kernel
theorem dL_matters_33 : decode cL_matters 33 = .ok (.iconst 1, 1) := by decide +kernel
theorem dL_matters_34 : decode cL_matters 34 = .ok (.iaload, 1) := by decide +kernel
theorem dL_matters_35 : decode cL_matters 35 = .ok (.if_icmp .ge 69, 3) := by decide +kernel
theorem dL_matters_38 : decode cL_matters 38 = .ok (.iload 11, 2) := by decide +kernel
theorem dL_matters_40 : decode cL_matters 40 = .ok (.iconst 1, 1) := by decide +kernel
theorem dL_matters_41 : decode cL_matters 41 = .ok (.if_icmp .ne 63, 3) := by decide +kernel
theorem dL_matters_44 : decode cL_matters 44 = .ok (.aload 4, 2) := by decide +kernel
theorem dL_matters_46 : decode cL_matters 46 = .ok (.iconst 4, 1) := by decide +kernel
theorem dL_matters_47 : decode cL_matters 47 = .ok (.iload 13, 2) := by decide +kernel
theorem dL_matters_49 : decode cL_matters 49 = .ok (.imul, 1) := by decide +kernel
theorem dL_matters_50 : decode cL_matters 50 = .ok (.iaload, 1) := by decide +kernel
theorem dL_matters_51 : decode cL_matters 51 = .ok (.ifCond .ne 47, 3) := by decide +kernel
theorem dL_matters_54 : decode cL_matters 54 = .ok (.aload 4, 2) := by decide +kernel
theorem dL_matters_56 : decode cL_matters 56 = .ok (.iconst 4, 1) := by decide +kernel
theorem dL_matters_57 : decode cL_matters 57 = .ok (.iload 13, 2) := by decide +kernel
theorem dL_matters_59 : decode cL_matters 59 = .ok (.imul, 1) := by decide +kernel
theorem dL_matters_60 : decode cL_matters 60 = .ok (.iconst 1, 1) := by decide +kernel
theorem dL_matters_61 : decode cL_matters 61 = .ok (.iadd, 1) := by decide +kernel
theorem dL_matters_62 : decode cL_matters 62 = .ok (.iaload, 1) := by decide +kernel
theorem dL_matters_63 : decode cL_matters 63 = .ok (.bipush 16, 2) := by decide +kernel
theorem dL_matters_65 : decode cL_matters 65 = .ok (.irem, 1) := by decide +kernel
theorem dL_matters_66 : decode cL_matters 66 = .ok (.iload 10, 2) := by decide +kernel
theorem dL_matters_68 : decode cL_matters 68 = .ok (.if_icmp .ne 30, 3) := by decide +kernel
theorem dL_matters_71 : decode cL_matters 71 = .ok (.iload 13, 2) := by decide +kernel
theorem dL_matters_73 : decode cL_matters 73 = .ok (.aload_n 3, 1) := by decide +kernel
theorem dL_matters_74 : decode cL_matters 74 = .ok (.aload 4, 2) := by decide +kernel
theorem dL_matters_76 : decode cL_matters 76 = .ok (.aload 5, 2) := by decide +kernel
theorem dL_matters_78 : decode cL_matters 78 = .ok (.aload 6, 2) := by decide +kernel
theorem dL_matters_80 : decode cL_matters 80 = .ok (.aload 7, 2) := by decide +kernel
theorem dL_matters_82 : decode cL_matters 82 = .ok (.aload 9, 2) := by decide +kernel
theorem dL_matters_84 : decode cL_matters 84 = .ok (.invokestatic 85, 3) := by decide +kernel
theorem dL_matters_87 : decode cL_matters 87 = .ok (.aload 4, 2) := by decide +kernel
theorem dL_matters_89 : decode cL_matters 89 = .ok (.iconst 4, 1) := by decide +kernel
theorem dL_matters_90 : decode cL_matters 90 = .ok (.iload 13, 2) := by decide +kernel
theorem dL_matters_92 : decode cL_matters 92 = .ok (.imul, 1) := by decide +kernel
theorem dL_matters_93 : decode cL_matters 93 = .ok (.iconst 3, 1) := by decide +kernel
theorem dL_matters_94 : decode cL_matters 94 = .ok (.iastore, 1) := by decide +kernel
theorem dL_matters_95 : decode cL_matters 95 = .ok (.iinc 12 1, 3) := by decide +kernel
theorem dL_matters_98 : decode cL_matters 98 = .ok (.iinc 13 1, 3) := by decide +kernel
theorem dL_matters_101 : decode cL_matters 101 = .ok (.goto (-72), 3) := by decide +kernel
theorem dL_matters_104 : decode cL_matters 104 = .ok (.aload_n 3, 1) := by decide +kernel
theorem dL_matters_105 : decode cL_matters 105 = .ok (.bipush 8, 2) := by decide +kernel
theorem dL_matters_107 : decode cL_matters 107 = .ok (.iload 10, 2) := by decide +kernel
theorem dL_matters_109 : decode cL_matters 109 = .ok (.imul, 1) := by decide +kernel
theorem dL_matters_110 : decode cL_matters 110 = .ok (.iload 11, 2) := by decide +kernel
theorem dL_matters_112 : decode cL_matters 112 = .ok (.iconst 1, 1) := by decide +kernel
theorem dL_matters_113 : decode cL_matters 113 = .ok (.if_icmp .ne 7, 3) := by decide +kernel
theorem dL_matters_116 : decode cL_matters 116 = .ok (.iconst 2, 1) := by decide +kernel
theorem dL_matters_117 : decode cL_matters 117 = .ok (.goto 5, 3) := by decide +kernel
theorem dL_matters_120 : decode cL_matters 120 = .ok (.iload 11, 2) := by decide +kernel
theorem dL_matters_122 : decode cL_matters 122 = .ok (.iastore, 1) := by decide +kernel
theorem dL_matters_123 : decode cL_matters 123 = .ok (.aload_n 0, 1) := by decide +kernel
theorem dL_matters_124 : decode cL_matters 124 = .ok (.iconst 3, 1) := by decide +kernel
theorem dL_matters_125 : decode cL_matters 125 = .ok (.iload 10, 2) := by decide +kernel
theorem dL_matters_127 : decode cL_matters 127 = .ok (.iconst 0, 1) := by decide +kernel
theorem dL_matters_128 : decode cL_matters 128 = .ok (.iconst 0, 1) := by decide +kernel
theorem dL_matters_129 : decode cL_matters 129 = .ok (.iconst 0, 1) := by decide +kernel
theorem dL_matters_130 : decode cL_matters 130 = .ok (.iconst 0, 1) := by decide +kernel
theorem dL_matters_131 : decode cL_matters 131 = .ok (.invokestatic 81, 3) := by decide +kernel
theorem dL_matters_134 : decode cL_matters 134 = .ok (.iload 11, 2) := by decide +kernel
theorem dL_matters_136 : decode cL_matters 136 = .ok (.iconst 1, 1) := by decide +kernel
theorem dL_matters_137 : decode cL_matters 137 = .ok (.if_icmp .ne 8, 3) := by decide +kernel
theorem dL_matters_140 : decode cL_matters 140 = .ok (.iload 12, 2) := by decide +kernel
theorem dL_matters_142 : decode cL_matters 142 = .ok (.goto 5, 3) := by decide +kernel
theorem dL_matters_145 : decode cL_matters 145 = .ok (.ldc 46, 2) := by decide +kernel
theorem dL_matters_147 : decode cL_matters 147 = .ok (.if_icmp .ne 7, 3) := by decide +kernel
theorem dL_matters_150 : decode cL_matters 150 = .ok (.iconst 1, 1) := by decide +kernel
theorem dL_matters_151 : decode cL_matters 151 = .ok (.goto 4, 3) := by decide +kernel
theorem dL_matters_154 : decode cL_matters 154 = .ok (.iconst 0, 1) := by decide +kernel
theorem dL_matters_155 : decode cL_matters 155 = .ok (.ireturn, 1) := by decide +kernel
theorem dL_matters_156 : decode cL_matters 156 = .ok (.iload_n 1, 1) := by decide +kernel
theorem dL_matters_157 : decode cL_matters 157 = .ok (.iconst 1, 1) := by decide +kernel
theorem dL_matters_158 : decode cL_matters 158 = .ok (.if_icmp .ne 126, 3) := by decide +kernel
theorem dL_matters_161 : decode cL_matters 161 = .ok (.iload 11, 2) := by decide +kernel
theorem dL_matters_163 : decode cL_matters 163 = .ok (.iconst 2, 1) := by decide +kernel
theorem dL_matters_164 : decode cL_matters 164 = .ok (.if_icmp .ne 19, 3) := by decide +kernel
theorem dL_matters_167 : decode cL_matters 167 = .ok (.aload_n 3, 1) := by decide +kernel
theorem dL_matters_168 : decode cL_matters 168 = .ok (.bipush 8, 2) := by decide +kernel
theorem dL_matters_170 : decode cL_matters 170 = .ok (.iload 10, 2) := by decide +kernel
theorem dL_matters_172 : decode cL_matters 172 = .ok (.imul, 1) := by decide +kernel
theorem dL_matters_173 : decode cL_matters 173 = .ok (.iconst 5, 1) := by decide +kernel
theorem dL_matters_174 : decode cL_matters 174 = .ok (.iadd, 1) := by decide +kernel
theorem dL_matters_175 : decode cL_matters 175 = .ok (.iaload, 1) := by decide +kernel
theorem dL_matters_176 : decode cL_matters 176 = .ok (.ifCond .lt 7, 3) := by decide +kernel
theorem dL_matters_179 : decode cL_matters 179 = .ok (.iconst 1, 1) := by decide +kernel
theorem dL_matters_180 : decode cL_matters 180 = .ok (.goto 4, 3) := by decide +kernel
theorem dL_matters_183 : decode cL_matters 183 = .ok (.iconst 0, 1) := by decide +kernel
theorem dL_matters_184 : decode cL_matters 184 = .ok (.istore 12, 2) := by decide +kernel
theorem dL_matters_186 : decode cL_matters 186 = .ok (.aload_n 3, 1) := by decide +kernel
theorem dL_matters_187 : decode cL_matters 187 = .ok (.bipush 8, 2) := by decide +kernel
theorem dL_matters_189 : decode cL_matters 189 = .ok (.iload 10, 2) := by decide +kernel
theorem dL_matters_191 : decode cL_matters 191 = .ok (.imul, 1) := by decide +kernel
theorem dL_matters_192 : decode cL_matters 192 = .ok (.iload 12, 2) := by decide +kernel
theorem dL_matters_194 : decode cL_matters 194 = .ok (.ifCond .eq 7, 3) := by decide +kernel
theorem dL_matters_197 : decode cL_matters 197 = .ok (.iconst 3, 1) := by decide +kernel
theorem dL_matters_198 : decode cL_matters 198 = .ok (.goto 5, 3) := by decide +kernel
theorem dL_matters_201 : decode cL_matters 201 = .ok (.iload 11, 2) := by decide +kernel
theorem dL_matters_203 : decode cL_matters 203 = .ok (.iastore, 1) := by decide +kernel
theorem dL_matters_204 : decode cL_matters 204 = .ok (.aload_n 3, 1) := by decide +kernel
theorem dL_matters_205 : decode cL_matters 205 = .ok (.bipush 8, 2) := by decide +kernel
theorem dL_matters_207 : decode cL_matters 207 = .ok (.iload 10, 2) := by decide +kernel
theorem dL_matters_209 : decode cL_matters 209 = .ok (.imul, 1) := by decide +kernel
theorem dL_matters_210 : decode cL_matters 210 = .ok (.iconst 5, 1) := by decide +kernel
theorem dL_matters_211 : decode cL_matters 211 = .ok (.iadd, 1) := by decide +kernel
theorem dL_matters_212 : decode cL_matters 212 = .ok (.dup2, 1) := by decide +kernel
theorem dL_matters_213 : decode cL_matters 213 = .ok (.iaload, 1) := by decide +kernel
theorem dL_matters_214 : decode cL_matters 214 = .ok (.iload 12, 2) := by decide +kernel
theorem dL_matters_216 : decode cL_matters 216 = .ok (.ifCond .eq 26, 3) := by decide +kernel
theorem dL_matters_219 : decode cL_matters 219 = .ok (.aload 8, 2) := by decide +kernel
theorem dL_matters_221 : decode cL_matters 221 = .ok (.bipush 8, 2) := by decide +kernel
theorem dL_matters_223 : decode cL_matters 223 = .ok (.aload_n 3, 1) := by decide +kernel
theorem dL_matters_224 : decode cL_matters 224 = .ok (.bipush 8, 2) := by decide +kernel
theorem dL_matters_226 : decode cL_matters 226 = .ok (.iload 10, 2) := by decide +kernel
theorem dL_matters_228 : decode cL_matters 228 = .ok (.imul, 1) := by decide +kernel
theorem dL_matters_229 : decode cL_matters 229 = .ok (.iconst 2, 1) := by decide +kernel
theorem dL_matters_230 : decode cL_matters 230 = .ok (.iadd, 1) := by decide +kernel
theorem dL_matters_231 : decode cL_matters 231 = .ok (.iaload, 1) := by decide +kernel
theorem dL_matters_232 : decode cL_matters 232 = .ok (.iadd, 1) := by decide +kernel
theorem dL_matters_233 : decode cL_matters 233 = .ok (.iaload, 1) := by decide +kernel
theorem dL_matters_234 : decode cL_matters 234 = .ok (.ifCond .ne 8, 3) := by decide +kernel
theorem dL_matters_237 : decode cL_matters 237 = .ok (.bipush 80, 2) := by decide +kernel
theorem dL_matters_239 : decode cL_matters 239 = .ok (.goto 4, 3) := by decide +kernel
theorem dL_matters_242 : decode cL_matters 242 = .ok (.iconst 0, 1) := by decide +kernel
theorem dL_matters_243 : decode cL_matters 243 = .ok (.isub, 1) := by decide +kernel
theorem dL_matters_244 : decode cL_matters 244 = .ok (.iastore, 1) := by decide +kernel
theorem dL_matters_245 : decode cL_matters 245 = .ok (.aload_n 0, 1) := by decide +kernel
theorem dL_matters_246 : decode cL_matters 246 = .ok (.iconst 4, 1) := by decide +kernel
theorem dL_matters_247 : decode cL_matters 247 = .ok (.iload 10, 2) := by decide +kernel
theorem dL_matters_249 : decode cL_matters 249 = .ok (.iconst 0, 1) := by decide +kernel
theorem dL_matters_250 : decode cL_matters 250 = .ok (.iconst 0, 1) := by decide +kernel
theorem dL_matters_251 : decode cL_matters 251 = .ok (.iconst 0, 1) := by decide +kernel
theorem dL_matters_252 : decode cL_matters 252 = .ok (.iconst 0, 1) := by decide +kernel
theorem dL_matters_253 : decode cL_matters 253 = .ok (.invokestatic 81, 3) := by decide +kernel
theorem dL_matters_256 : decode cL_matters 256 = .ok (.iload 12, 2) := by decide +kernel
theorem dL_matters_258 : decode cL_matters 258 = .ok (.ifCond .eq 15, 3) := by decide +kernel
theorem dL_matters_261 : decode cL_matters 261 = .ok (.aload_n 3, 1) := by decide +kernel
theorem dL_matters_262 : decode cL_matters 262 = .ok (.bipush 8, 2) := by decide +kernel
theorem dL_matters_264 : decode cL_matters 264 = .ok (.iload 10, 2) := by decide +kernel
theorem dL_matters_266 : decode cL_matters 266 = .ok (.imul, 1) := by decide +kernel
theorem dL_matters_267 : decode cL_matters 267 = .ok (.iconst 5, 1) := by decide +kernel
theorem dL_matters_268 : decode cL_matters 268 = .ok (.iadd, 1) := by decide +kernel
theorem dL_matters_269 : decode cL_matters 269 = .ok (.iaload, 1) := by decide +kernel
theorem dL_matters_270 : decode cL_matters 270 = .ok (.goto 5, 3) := by decide +kernel
theorem dL_matters_273 : decode cL_matters 273 = .ok (.ldc 46, 2) := by decide +kernel
theorem dL_matters_275 : decode cL_matters 275 = .ok (.if_icmp .ne 7, 3) := by decide +kernel
theorem dL_matters_278 : decode cL_matters 278 = .ok (.iconst 1, 1) := by decide +kernel
theorem dL_matters_279 : decode cL_matters 279 = .ok (.goto 4, 3) := by decide +kernel
theorem dL_matters_282 : decode cL_matters 282 = .ok (.iconst 0, 1) := by decide +kernel
theorem dL_matters_283 : decode cL_matters 283 = .ok (.ireturn, 1) := by decide +kernel
theorem dL_matters_284 : decode cL_matters 284 = .ok (.iload_n 1, 1) := by decide +kernel
theorem dL_matters_285 : decode cL_matters 285 = .ok (.iconst 2, 1) := by decide +kernel
theorem dL_matters_286 : decode cL_matters 286 = .ok (.if_icmp .ne 83, 3) := by decide +kernel
theorem dL_matters_289 : decode cL_matters 289 = .ok (.iload_n 2, 1) := by decide +kernel
theorem dL_matters_290 : decode cL_matters 290 = .ok (.iconst 4, 1) := by decide +kernel
theorem dL_matters_291 : decode cL_matters 291 = .ok (.ishr, 1) := by decide +kernel
theorem dL_matters_292 : decode cL_matters 292 = .ok (.iconst 2, 1) := by decide +kernel
theorem dL_matters_293 : decode cL_matters 293 = .ok (.invokestatic 65, 3) := by decide +kernel
theorem dL_matters_296 : decode cL_matters 296 = .ok (.istore 12, 2) := by decide +kernel
theorem dL_matters_298 : decode cL_matters 298 = .ok (.aload_n 3, 1) := by decide +kernel
theorem dL_matters_299 : decode cL_matters 299 = .ok (.bipush 8, 2) := by decide +kernel
theorem dL_matters_301 : decode cL_matters 301 = .ok (.iload 10, 2) := by decide +kernel
theorem dL_matters_303 : decode cL_matters 303 = .ok (.imul, 1) := by decide +kernel
theorem dL_matters_304 : decode cL_matters 304 = .ok (.iload 11, 2) := by decide +kernel
theorem dL_matters_306 : decode cL_matters 306 = .ok (.iconst 3, 1) := by decide +kernel
theorem dL_matters_307 : decode cL_matters 307 = .ok (.if_icmp .ne 17, 3) := by decide +kernel
theorem dL_matters_310 : decode cL_matters 310 = .ok (.iload 12, 2) := by decide +kernel
theorem dL_matters_312 : decode cL_matters 312 = .ok (.iconst 1, 1) := by decide +kernel
theorem dL_matters_313 : decode cL_matters 313 = .ok (.if_icmp .ne 7, 3) := by decide +kernel
theorem dL_matters_316 : decode cL_matters 316 = .ok (.iconst 0, 1) := by decide +kernel
theorem dL_matters_317 : decode cL_matters 317 = .ok (.goto 9, 3) := by decide +kernel
theorem dL_matters_320 : decode cL_matters 320 = .ok (.iconst 2, 1) := by decide +kernel
theorem dL_matters_321 : decode cL_matters 321 = .ok (.goto 5, 3) := by decide +kernel
theorem dL_matters_324 : decode cL_matters 324 = .ok (.iload 11, 2) := by decide +kernel
theorem dL_matters_326 : decode cL_matters 326 = .ok (.iastore, 1) := by decide +kernel
theorem dL_matters_327 : decode cL_matters 327 = .ok (.aload_n 0, 1) := by decide +kernel
theorem dL_matters_328 : decode cL_matters 328 = .ok (.iconst 5, 1) := by decide +kernel
theorem dL_matters_329 : decode cL_matters 329 = .ok (.iload 10, 2) := by decide +kernel
theorem dL_matters_331 : decode cL_matters 331 = .ok (.iload 12, 2) := by decide +kernel
theorem dL_matters_333 : decode cL_matters 333 = .ok (.iconst 0, 1) := by decide +kernel
theorem dL_matters_334 : decode cL_matters 334 = .ok (.iconst 0, 1) := by decide +kernel
theorem dL_matters_335 : decode cL_matters 335 = .ok (.iconst 0, 1) := by decide +kernel
theorem dL_matters_336 : decode cL_matters 336 = .ok (.invokestatic 81, 3) := by decide +kernel
theorem dL_matters_339 : decode cL_matters 339 = .ok (.iload 11, 2) := by decide +kernel
theorem dL_matters_341 : decode cL_matters 341 = .ok (.iconst 3, 1) := by decide +kernel
theorem dL_matters_342 : decode cL_matters 342 = .ok (.if_icmp .ne 16, 3) := by decide +kernel
theorem dL_matters_345 : decode cL_matters 345 = .ok (.aload_n 3, 1) := by decide +kernel
theorem dL_matters_346 : decode cL_matters 346 = .ok (.bipush 8, 2) := by decide +kernel
theorem dL_matters_348 : decode cL_matters 348 = .ok (.iload 10, 2) := by decide +kernel
theorem dL_matters_350 : decode cL_matters 350 = .ok (.imul, 1) := by decide +kernel
theorem dL_matters_351 : decode cL_matters 351 = .ok (.bipush 6, 2) := by decide +kernel
theorem dL_matters_353 : decode cL_matters 353 = .ok (.iadd, 1) := by decide +kernel
theorem dL_matters_354 : decode cL_matters 354 = .ok (.iaload, 1) := by decide +kernel
theorem dL_matters_355 : decode cL_matters 355 = .ok (.goto 5, 3) := by decide +kernel
theorem dL_matters_358 : decode cL_matters 358 = .ok (.ldc 46, 2) := by decide +kernel
theorem dL_matters_360 : decode cL_matters 360 = .ok (.if_icmp .ne 7, 3) := by decide +kernel
theorem dL_matters_363 : decode cL_matters 363 = .ok (.iconst 1, 1) := by decide +kernel
theorem dL_matters_364 : decode cL_matters 364 = .ok (.goto 4, 3) := by decide +kernel
theorem dL_matters_367 : decode cL_matters 367 = .ok (.iconst 0, 1) := by decide +kernel
theorem dL_matters_368 : decode cL_matters 368 = .ok (.ireturn, 1) := by decide +kernel
theorem dL_matters_369 : decode cL_matters 369 = .ok (.iload_n 1, 1) := by decide +kernel
theorem dL_matters_370 : decode cL_matters 370 = .ok (.iconst 3, 1) := by decide +kernel
theorem dL_matters_371 : decode cL_matters 371 = .ok (.if_icmp .ne 73, 3) := by decide +kernel
theorem dL_matters_374 : decode cL_matters 374 = .ok (.iload_n 2, 1) := by decide +kernel
theorem dL_matters_375 : decode cL_matters 375 = .ok (.iconst 5, 1) := by decide +kernel
theorem dL_matters_376 : decode cL_matters 376 = .ok (.ishr, 1) := by decide +kernel
theorem dL_matters_377 : decode cL_matters 377 = .ok (.iconst 3, 1) := by decide +kernel
theorem dL_matters_378 : decode cL_matters 378 = .ok (.invokestatic 65, 3) := by decide +kernel
theorem dL_matters_381 : decode cL_matters 381 = .ok (.ifCond .ne 63, 3) := by decide +kernel
theorem dL_matters_384 : decode cL_matters 384 = .ok (.aload_n 3, 1) := by decide +kernel
theorem dL_matters_385 : decode cL_matters 385 = .ok (.bipush 8, 2) := by decide +kernel
theorem dL_matters_387 : decode cL_matters 387 = .ok (.iload 10, 2) := by decide +kernel
theorem dL_matters_389 : decode cL_matters 389 = .ok (.imul, 1) := by decide +kernel
theorem dL_matters_390 : decode cL_matters 390 = .ok (.iload 11, 2) := by decide +kernel
theorem dL_matters_392 : decode cL_matters 392 = .ok (.iconst 2, 1) := by decide +kernel
theorem dL_matters_393 : decode cL_matters 393 = .ok (.if_icmp .ne 7, 3) := by decide +kernel
theorem dL_matters_396 : decode cL_matters 396 = .ok (.iconst 4, 1) := by decide +kernel
theorem dL_matters_397 : decode cL_matters 397 = .ok (.goto 5, 3) := by decide +kernel
theorem dL_matters_400 : decode cL_matters 400 = .ok (.iload 11, 2) := by decide +kernel
theorem dL_matters_402 : decode cL_matters 402 = .ok (.iastore, 1) := by decide +kernel
theorem dL_matters_403 : decode cL_matters 403 = .ok (.aload_n 0, 1) := by decide +kernel
theorem dL_matters_404 : decode cL_matters 404 = .ok (.bipush 6, 2) := by decide +kernel
theorem dL_matters_406 : decode cL_matters 406 = .ok (.iload 10, 2) := by decide +kernel
theorem dL_matters_408 : decode cL_matters 408 = .ok (.iconst 0, 1) := by decide +kernel
theorem dL_matters_409 : decode cL_matters 409 = .ok (.iconst 0, 1) := by decide +kernel
theorem dL_matters_410 : decode cL_matters 410 = .ok (.iconst 0, 1) := by decide +kernel
theorem dL_matters_411 : decode cL_matters 411 = .ok (.iconst 0, 1) := by decide +kernel
theorem dL_matters_412 : decode cL_matters 412 = .ok (.invokestatic 81, 3) := by decide +kernel
theorem dL_matters_415 : decode cL_matters 415 = .ok (.iload 11, 2) := by decide +kernel
theorem dL_matters_417 : decode cL_matters 417 = .ok (.iconst 2, 1) := by decide +kernel
theorem dL_matters_418 : decode cL_matters 418 = .ok (.if_icmp .ne 15, 3) := by decide +kernel
theorem dL_matters_421 : decode cL_matters 421 = .ok (.aload_n 3, 1) := by decide +kernel
theorem dL_matters_422 : decode cL_matters 422 = .ok (.bipush 8, 2) := by decide +kernel
theorem dL_matters_424 : decode cL_matters 424 = .ok (.iload 10, 2) := by decide +kernel
theorem dL_matters_426 : decode cL_matters 426 = .ok (.imul, 1) := by decide +kernel
theorem dL_matters_427 : decode cL_matters 427 = .ok (.iconst 5, 1) := by decide +kernel
theorem dL_matters_428 : decode cL_matters 428 = .ok (.iadd, 1) := by decide +kernel
theorem dL_matters_429 : decode cL_matters 429 = .ok (.iaload, 1) := by decide +kernel
theorem dL_matters_430 : decode cL_matters 430 = .ok (.goto 5, 3) := by decide +kernel
theorem dL_matters_433 : decode cL_matters 433 = .ok (.ldc 46, 2) := by decide +kernel
theorem dL_matters_435 : decode cL_matters 435 = .ok (.if_icmp .ne 7, 3) := by decide +kernel
theorem dL_matters_438 : decode cL_matters 438 = .ok (.iconst 1, 1) := by decide +kernel
theorem dL_matters_439 : decode cL_matters 439 = .ok (.goto 4, 3) := by decide +kernel
theorem dL_matters_442 : decode cL_matters 442 = .ok (.iconst 0, 1) := by decide +kernel
theorem dL_matters_443 : decode cL_matters 443 = .ok (.ireturn, 1) := by decide +kernel
theorem dL_matters_444 : decode cL_matters 444 = .ok (.iconst 1, 1) := by decide +kernel
theorem dL_matters_445 : decode cL_matters 445 = .ok (.iload_n 2, 1) := by decide +kernel
theorem dL_matters_446 : decode cL_matters 446 = .ok (.iconst 4, 1) := by decide +kernel
theorem dL_matters_447 : decode cL_matters 447 = .ok (.ishr, 1) := by decide +kernel
theorem dL_matters_448 : decode cL_matters 448 = .ok (.sipush 300, 3) := by decide +kernel
theorem dL_matters_451 : decode cL_matters 451 = .ok (.invokestatic 65, 3) := by decide +kernel
theorem dL_matters_454 : decode cL_matters 454 = .ok (.iadd, 1) := by decide +kernel
theorem dL_matters_455 : decode cL_matters 455 = .ok (.istore 12, 2) := by decide +kernel
theorem dL_matters_457 : decode cL_matters 457 = .ok (.aload_n 3, 1) := by decide +kernel
theorem dL_matters_458 : decode cL_matters 458 = .ok (.bipush 8, 2) := by decide +kernel
theorem dL_matters_460 : decode cL_matters 460 = .ok (.iload 10, 2) := by decide +kernel
theorem dL_matters_462 : decode cL_matters 462 = .ok (.imul, 1) := by decide +kernel
theorem dL_matters_463 : decode cL_matters 463 = .ok (.iconst 5, 1) := by decide +kernel
theorem dL_matters_464 : decode cL_matters 464 = .ok (.iadd, 1) := by decide +kernel
theorem dL_matters_465 : decode cL_matters 465 = .ok (.dup2, 1) := by decide +kernel
theorem dL_matters_466 : decode cL_matters 466 = .ok (.iaload, 1) := by decide +kernel
theorem dL_matters_467 : decode cL_matters 467 = .ok (.iload 12, 2) := by decide +kernel
theorem dL_matters_469 : decode cL_matters 469 = .ok (.iadd, 1) := by decide +kernel
theorem dL_matters_470 : decode cL_matters 470 = .ok (.iastore, 1) := by decide +kernel
theorem dL_matters_471 : decode cL_matters 471 = .ok (.aload_n 0, 1) := by decide +kernel
theorem dL_matters_472 : decode cL_matters 472 = .ok (.iload 10, 2) := by decide +kernel
theorem dL_matters_474 : decode cL_matters 474 = .ok (.iload 12, 2) := by decide +kernel
theorem dL_matters_476 : decode cL_matters 476 = .ok (.invokevirtual 89, 3) := by decide +kernel
theorem dL_matters_479 : decode cL_matters 479 = .ok (.aload_n 3, 1) := by decide +kernel
theorem dL_matters_480 : decode cL_matters 480 = .ok (.bipush 8, 2) := by decide +kernel
theorem dL_matters_482 : decode cL_matters 482 = .ok (.iload 10, 2) := by decide +kernel
theorem dL_matters_484 : decode cL_matters 484 = .ok (.imul, 1) := by decide +kernel
theorem dL_matters_485 : decode cL_matters 485 = .ok (.iconst 5, 1) := by decide +kernel
theorem dL_matters_486 : decode cL_matters 486 = .ok (.iadd, 1) := by decide +kernel
theorem dL_matters_487 : decode cL_matters 487 = .ok (.iaload, 1) := by decide +kernel
theorem dL_matters_488 : decode cL_matters 488 = .ok (.if_icmp .ne 7, 3) := by decide +kernel
theorem dL_matters_491 : decode cL_matters 491 = .ok (.iconst 1, 1) := by decide +kernel
theorem dL_matters_492 : decode cL_matters 492 = .ok (.goto 4, 3) := by decide +kernel
theorem dL_matters_495 : decode cL_matters 495 = .ok (.iconst 0, 1) := by decide +kernel
theorem dL_matters_496 : decode cL_matters 496 = .ok (.ireturn, 1) := by decide +kernel
theorem dL_same_0 : decode cL_same 0 = .ok (.aload_n 0, 1) := by decide +kernel
theorem dL_same_1 : decode cL_same 1 = .ok (.invokevirtual 92, 3) := by decide +kernel
theorem dL_same_4 : decode cL_same 4 = .ok (.aload 7, 2) := by decide +kernel
theorem dL_same_6 : decode cL_same 6 = .ok (.iconst 2, 1) := by decide +kernel
theorem dL_same_7 : decode cL_same 7 = .ok (.iaload, 1) := by decide +kernel
theorem dL_same_8 : decode cL_same 8 = .ok (.if_icmp .ne 7, 3) := by decide +kernel
theorem dL_same_11 : decode cL_same 11 = .ok (.iconst 1, 1) := by decide +kernel
theorem dL_same_12 : decode cL_same 12 = .ok (.goto 4, 3) := by decide +kernel
theorem dL_same_15 : decode cL_same 15 = .ok (.iconst 0, 1) := by decide +kernel
theorem dL_same_16 : decode cL_same 16 = .ok (.istore 8, 2) := by decide +kernel
theorem dL_same_18 : decode cL_same 18 = .ok (.iconst 0, 1) := by decide +kernel
theorem dL_same_19 : decode cL_same 19 = .ok (.istore 9, 2) := by decide +kernel
theorem dL_same_21 : decode cL_same 21 = .ok (.iconst 0, 1) := by decide +kernel
theorem dL_same_22 : decode cL_same 22 = .ok (.istore 10, 2) := by decide +kernel
theorem dL_same_24 : decode cL_same 24 = .ok (.iload 10, 2) := by decide +kernel
theorem dL_same_26 : decode cL_same 26 = .ok (.aload 7, 2) := by decide +kernel
theorem dL_same_28 : decode cL_same 28 = .ok (.iconst 0, 1) := by decide +kernel
theorem dL_same_29 : decode cL_same 29 = .ok (.iaload, 1) := by decide +kernel
theorem dL_same_30 : decode cL_same 30 = .ok (.if_icmp .ge 191, 3) := by decide +kernel
theorem dL_same_33 : decode cL_same 33 = .ok (.iload 8, 2) := by decide +kernel
theorem dL_same_35 : decode cL_same 35 = .ok (.ifCond .eq 186, 3) := by decide +kernel
theorem dL_same_38 : decode cL_same 38 = .ok (.iconst 0, 1) := by decide +kernel
theorem dL_same_39 : decode cL_same 39 = .ok (.istore 11, 2) := by decide +kernel
theorem dL_same_41 : decode cL_same 41 = .ok (.iconst 0, 1) := by decide +kernel
theorem dL_same_42 : decode cL_same 42 = .ok (.istore 12, 2) := by decide +kernel
theorem dL_same_44 : decode cL_same 44 = .ok (.iload 12, 2) := by decide +kernel
theorem dL_same_46 : decode cL_same 46 = .ok (.bipush 64, 2) := by decide +kernel
theorem dL_same_48 : decode cL_same 48 = .ok (.if_icmp .ge 55, 3) := by decide +kernel
theorem dL_same_51 : decode cL_same 51 = .ok (.iload 11, 2) := by decide +kernel
theorem dL_same_53 : decode cL_same 53 = .ok (.aload 5, 2) := by decide +kernel
theorem dL_same_55 : decode cL_same 55 = .ok (.iload 12, 2) := by decide +kernel
theorem dL_same_57 : decode cL_same 57 = .ok (.iaload, 1) := by decide +kernel
theorem dL_same_58 : decode cL_same 58 = .ok (.ifCond .le 35, 3) := by decide +kernel
theorem dL_same_61 : decode cL_same 61 = .ok (.aload 5, 2) := by decide +kernel
theorem dL_same_63 : decode cL_same 63 = .ok (.iload 12, 2) := by decide +kernel
theorem dL_same_65 : decode cL_same 65 = .ok (.iaload, 1) := by decide +kernel
theorem dL_same_66 : decode cL_same 66 = .ok (.bipush 8, 2) := by decide +kernel
theorem dL_same_68 : decode cL_same 68 = .ok (.idiv, 1) := by decide +kernel
theorem dL_same_69 : decode cL_same 69 = .ok (.aload 7, 2) := by decide +kernel
theorem dL_same_71 : decode cL_same 71 = .ok (.iconst 2, 1) := by decide +kernel
theorem dL_same_72 : decode cL_same 72 = .ok (.iaload, 1) := by decide +kernel
theorem dL_same_73 : decode cL_same 73 = .ok (.if_icmp .le 20, 3) := by decide +kernel
theorem dL_same_76 : decode cL_same 76 = .ok (.aload 6, 2) := by decide +kernel
theorem dL_same_78 : decode cL_same 78 = .ok (.iload 12, 2) := by decide +kernel
theorem dL_same_80 : decode cL_same 80 = .ok (.iaload, 1) := by decide +kernel
theorem dL_same_81 : decode cL_same 81 = .ok (.bipush 16, 2) := by decide +kernel
theorem dL_same_83 : decode cL_same 83 = .ok (.irem, 1) := by decide +kernel
theorem dL_same_84 : decode cL_same 84 = .ok (.iload 10, 2) := by decide +kernel
theorem dL_same_86 : decode cL_same 86 = .ok (.if_icmp .ne 7, 3) := by decide +kernel
theorem dL_same_89 : decode cL_same 89 = .ok (.iconst 1, 1) := by decide +kernel
theorem dL_same_90 : decode cL_same 90 = .ok (.goto 4, 3) := by decide +kernel
theorem dL_same_93 : decode cL_same 93 = .ok (.iconst 0, 1) := by decide +kernel
theorem dL_same_94 : decode cL_same 94 = .ok (.iadd, 1) := by decide +kernel
theorem dL_same_95 : decode cL_same 95 = .ok (.istore 11, 2) := by decide +kernel
theorem dL_same_97 : decode cL_same 97 = .ok (.iinc 12 1, 3) := by decide +kernel
theorem dL_same_100 : decode cL_same 100 = .ok (.goto (-56), 3) := by decide +kernel
theorem dL_same_103 : decode cL_same 103 = .ok (.iload 9, 2) := by decide +kernel
theorem dL_same_105 : decode cL_same 105 = .ok (.aload_n 2, 1) := by decide +kernel
theorem dL_same_106 : decode cL_same 106 = .ok (.bipush 8, 2) := by decide +kernel
theorem dL_same_108 : decode cL_same 108 = .ok (.iload 10, 2) := by decide +kernel
theorem dL_same_110 : decode cL_same 110 = .ok (.imul, 1) := by decide +kernel
theorem dL_same_111 : decode cL_same 111 = .ok (.iconst 5, 1) := by decide +kernel
theorem dL_same_112 : decode cL_same 112 = .ok (.iadd, 1) := by decide +kernel
theorem dL_same_113 : decode cL_same 113 = .ok (.iaload, 1) := by decide +kernel
theorem dL_same_114 : decode cL_same 114 = .ok (.iadd, 1) := by decide +kernel
theorem dL_same_115 : decode cL_same 115 = .ok (.istore 9, 2) := by decide +kernel
theorem dL_same_117 : decode cL_same 117 = .ok (.aload_n 0, 1) := by decide +kernel
theorem dL_same_118 : decode cL_same 118 = .ok (.iload 10, 2) := by decide +kernel
theorem dL_same_120 : decode cL_same 120 = .ok (.iconst 0, 1) := by decide +kernel
theorem dL_same_121 : decode cL_same 121 = .ok (.invokevirtual 96, 3) := by decide +kernel
theorem dL_same_124 : decode cL_same 124 = .ok (.aload_n 2, 1) := by decide +kernel
theorem dL_same_125 : decode cL_same 125 = .ok (.bipush 8, 2) := by decide +kernel
theorem dL_same_127 : decode cL_same 127 = .ok (.iload 10, 2) := by decide +kernel
theorem dL_same_129 : decode cL_same 129 = .ok (.imul, 1) := by decide +kernel
theorem dL_same_130 : decode cL_same 130 = .ok (.iaload, 1) := by decide +kernel
theorem dL_same_131 : decode cL_same 131 = .ok (.if_icmp .ne 81, 3) := by decide +kernel
theorem dL_same_134 : decode cL_same 134 = .ok (.aload_n 0, 1) := by decide +kernel
theorem dL_same_135 : decode cL_same 135 = .ok (.iload 10, 2) := by decide +kernel
theorem dL_same_137 : decode cL_same 137 = .ok (.iconst 5, 1) := by decide +kernel
theorem dL_same_138 : decode cL_same 138 = .ok (.invokevirtual 96, 3) := by decide +kernel
theorem dL_same_141 : decode cL_same 141 = .ok (.aload_n 2, 1) := by decide +kernel
theorem dL_same_142 : decode cL_same 142 = .ok (.bipush 8, 2) := by decide +kernel
theorem dL_same_144 : decode cL_same 144 = .ok (.iload 10, 2) := by decide +kernel
theorem dL_same_146 : decode cL_same 146 = .ok (.imul, 1) := by decide +kernel
theorem dL_same_147 : decode cL_same 147 = .ok (.iconst 5, 1) := by decide +kernel
theorem dL_same_148 : decode cL_same 148 = .ok (.iadd, 1) := by decide +kernel
theorem dL_same_149 : decode cL_same 149 = .ok (.iaload, 1) := by decide +kernel
theorem dL_same_150 : decode cL_same 150 = .ok (.if_icmp .ne 62, 3) := by decide +kernel
theorem dL_same_153 : decode cL_same 153 = .ok (.aload_n 0, 1) := by decide +kernel
theorem dL_same_154 : decode cL_same 154 = .ok (.iload 10, 2) := by decide +kernel
theorem dL_same_156 : decode cL_same 156 = .ok (.bipush 6, 2) := by decide +kernel
theorem dL_same_158 : decode cL_same 158 = .ok (.invokevirtual 96, 3) := by decide +kernel
theorem dL_same_161 : decode cL_same 161 = .ok (.aload_n 2, 1) := by decide +kernel
theorem dL_same_162 : decode cL_same 162 = .ok (.bipush 8, 2) := by decide +kernel
theorem dL_same_164 : decode cL_same 164 = .ok (.iload 10, 2) := by decide +kernel
theorem dL_same_166 : decode cL_same 166 = .ok (.imul, 1) := by decide +kernel
theorem dL_same_167 : decode cL_same 167 = .ok (.bipush 6, 2) := by decide +kernel
theorem dL_same_169 : decode cL_same 169 = .ok (.iadd, 1) := by decide +kernel
theorem dL_same_170 : decode cL_same 170 = .ok (.iaload, 1) := by decide +kernel
theorem dL_same_171 : decode cL_same 171 = .ok (.if_icmp .ne 41, 3) := by decide +kernel
theorem dL_same_174 : decode cL_same 174 = .ok (.aload_n 0, 1) := by decide +kernel
theorem dL_same_175 : decode cL_same 175 = .ok (.iload 10, 2) := by decide +kernel
theorem dL_same_177 : decode cL_same 177 = .ok (.bipush 7, 2) := by decide +kernel
theorem dL_same_179 : decode cL_same 179 = .ok (.invokevirtual 96, 3) := by decide +kernel
theorem dL_same_182 : decode cL_same 182 = .ok (.iload 11, 2) := by decide +kernel
theorem dL_same_184 : decode cL_same 184 = .ok (.if_icmp .ne 28, 3) := by decide +kernel
theorem dL_same_187 : decode cL_same 187 = .ok (.aload_n 0, 1) := by decide +kernel
theorem dL_same_188 : decode cL_same 188 = .ok (.iload 10, 2) := by decide +kernel
theorem dL_same_190 : decode cL_same 190 = .ok (.iconst 4, 1) := by decide +kernel
theorem dL_same_191 : decode cL_same 191 = .ok (.invokevirtual 96, 3) := by decide +kernel
theorem dL_same_194 : decode cL_same 194 = .ok (.aload_n 2, 1) := by decide +kernel
theorem dL_same_195 : decode cL_same 195 = .ok (.bipush 8, 2) := by decide +kernel
theorem dL_same_197 : decode cL_same 197 = .ok (.iload 10, 2) := by decide +kernel
theorem dL_same_199 : decode cL_same 199 = .ok (.imul, 1) := by decide +kernel
theorem dL_same_200 : decode cL_same 200 = .ok (.iconst 4, 1) := by decide +kernel
theorem dL_same_201 : decode cL_same 201 = .ok (.iadd, 1) := by decide +kernel
theorem dL_same_202 : decode cL_same 202 = .ok (.iaload, 1) := by decide +kernel
theorem dL_same_203 : decode cL_same 203 = .ok (.iconst 1, 1) := by decide +kernel
theorem dL_same_204 : decode cL_same 204 = .ok (.isub, 1) := by decide +kernel
theorem dL_same_205 : decode cL_same 205 = .ok (.if_icmp .ne 7, 3) := by decide +kernel
theorem dL_same_208 : decode cL_same 208 = .ok (.iconst 1, 1) := by decide +kernel
theorem dL_same_209 : decode cL_same 209 = .ok (.goto 4, 3) := by decide +kernel
theorem dL_same_212 : decode cL_same 212 = .ok (.iconst 0, 1) := by decide +kernel
theorem dL_same_213 : decode cL_same 213 = .ok (.istore 8, 2) := by decide +kernel
theorem dL_same_215 : decode cL_same 215 = .ok (.iinc 10 1, 3) := by decide +kernel
theorem dL_same_218 : decode cL_same 218 = .ok (.goto (-194), 3) := by decide +kernel
theorem dL_same_221 : decode cL_same 221 = .ok (.iconst 0, 1) := by decide +kernel
theorem dL_same_222 : decode cL_same 222 = .ok (.istore 10, 2) := by decide +kernel
theorem dL_same_224 : decode cL_same 224 = .ok (.iload 10, 2) := by decide +kernel
theorem dL_same_226 : decode cL_same 226 = .ok (.aload 7, 2) := by decide +kernel
theorem dL_same_228 : decode cL_same 228 = .ok (.iconst 1, 1) := by decide +kernel
theorem dL_same_229 : decode cL_same 229 = .ok (.iaload, 1) := by decide +kernel
theorem dL_same_230 : decode cL_same 230 = .ok (.if_icmp .ge 196, 3) := by decide +kernel
theorem dL_same_233 : decode cL_same 233 = .ok (.iload 8, 2) := by decide +kernel
theorem dL_same_235 : decode cL_same 235 = .ok (.ifCond .eq 191, 3) := by decide +kernel
theorem dL_same_238 : decode cL_same 238 = .ok (.aload_n 3, 1) := by decide +kernel
theorem dL_same_239 : decode cL_same 239 = .ok (.iconst 4, 1) := by decide +kernel
theorem dL_same_240 : decode cL_same 240 = .ok (.iload 10, 2) := by decide +kernel
theorem dL_same_242 : decode cL_same 242 = .ok (.imul, 1) := by decide +kernel
theorem dL_same_243 : decode cL_same 243 = .ok (.iconst 3, 1) := by decide +kernel
theorem dL_same_244 : decode cL_same 244 = .ok (.iadd, 1) := by decide +kernel
theorem dL_same_245 : decode cL_same 245 = .ok (.iaload, 1) := by decide +kernel
theorem dL_same_246 : decode cL_same 246 = .ok (.bipush 16, 2) := by decide +kernel
theorem dL_same_248 : decode cL_same 248 = .ok (.idiv, 1) := by decide +kernel
theorem dL_same_249 : decode cL_same 249 = .ok (.istore 11, 2) := by decide +kernel
theorem dL_same_251 : decode cL_same 251 = .ok (.aload_n 0, 1) := by decide +kernel
theorem dL_same_252 : decode cL_same 252 = .ok (.iload 10, 2) := by decide +kernel
theorem dL_same_254 : decode cL_same 254 = .ok (.iconst 0, 1) := by decide +kernel
theorem dL_same_255 : decode cL_same 255 = .ok (.invokevirtual 99, 3) := by decide +kernel
theorem dL_same_258 : decode cL_same 258 = .ok (.aload_n 3, 1) := by decide +kernel
theorem dL_same_259 : decode cL_same 259 = .ok (.iconst 4, 1) := by decide +kernel
theorem dL_same_260 : decode cL_same 260 = .ok (.iload 10, 2) := by decide +kernel
theorem dL_same_262 : decode cL_same 262 = .ok (.imul, 1) := by decide +kernel
theorem dL_same_263 : decode cL_same 263 = .ok (.iaload, 1) := by decide +kernel
theorem dL_same_264 : decode cL_same 264 = .ok (.if_icmp .ne 153, 3) := by decide +kernel
theorem dL_same_267 : decode cL_same 267 = .ok (.aload_n 0, 1) := by decide +kernel
theorem dL_same_268 : decode cL_same 268 = .ok (.iload 10, 2) := by decide +kernel
theorem dL_same_270 : decode cL_same 270 = .ok (.iconst 2, 1) := by decide +kernel
theorem dL_same_271 : decode cL_same 271 = .ok (.invokevirtual 99, 3) := by decide +kernel
theorem dL_same_274 : decode cL_same 274 = .ok (.aload_n 3, 1) := by decide +kernel
theorem dL_same_275 : decode cL_same 275 = .ok (.iconst 4, 1) := by decide +kernel
theorem dL_same_276 : decode cL_same 276 = .ok (.iload 10, 2) := by decide +kernel
theorem dL_same_278 : decode cL_same 278 = .ok (.imul, 1) := by decide +kernel
theorem dL_same_279 : decode cL_same 279 = .ok (.iconst 1, 1) := by decide +kernel
theorem dL_same_280 : decode cL_same 280 = .ok (.iadd, 1) := by decide +kernel
theorem dL_same_281 : decode cL_same 281 = .ok (.iaload, 1) := by decide +kernel
theorem dL_same_282 : decode cL_same 282 = .ok (.bipush 16, 2) := by decide +kernel
theorem dL_same_284 : decode cL_same 284 = .ok (.idiv, 1) := by decide +kernel
theorem dL_same_285 : decode cL_same 285 = .ok (.iconst 4, 1) := by decide +kernel
theorem dL_same_286 : decode cL_same 286 = .ok (.irem, 1) := by decide +kernel
theorem dL_same_287 : decode cL_same 287 = .ok (.if_icmp .ne 130, 3) := by decide +kernel
theorem dL_same_290 : decode cL_same 290 = .ok (.aload_n 0, 1) := by decide +kernel
theorem dL_same_291 : decode cL_same 291 = .ok (.iload 10, 2) := by decide +kernel
theorem dL_same_293 : decode cL_same 293 = .ok (.iconst 3, 1) := by decide +kernel
theorem dL_same_294 : decode cL_same 294 = .ok (.invokevirtual 99, 3) := by decide +kernel
theorem dL_same_297 : decode cL_same 297 = .ok (.iload 10, 2) := by decide +kernel
theorem dL_same_299 : decode cL_same 299 = .ok (.aload_n 3, 1) := by decide +kernel
theorem dL_same_300 : decode cL_same 300 = .ok (.invokestatic 47, 3) := by decide +kernel
theorem dL_same_303 : decode cL_same 303 = .ok (.if_icmp .ne 114, 3) := by decide +kernel
theorem dL_same_306 : decode cL_same 306 = .ok (.aload_n 0, 1) := by decide +kernel
theorem dL_same_307 : decode cL_same 307 = .ok (.iload 10, 2) := by decide +kernel
theorem dL_same_309 : decode cL_same 309 = .ok (.iconst 4, 1) := by decide +kernel
theorem dL_same_310 : decode cL_same 310 = .ok (.invokevirtual 99, 3) := by decide +kernel
theorem dL_same_313 : decode cL_same 313 = .ok (.aload_n 3, 1) := by decide +kernel
theorem dL_same_314 : decode cL_same 314 = .ok (.iconst 4, 1) := by decide +kernel
theorem dL_same_315 : decode cL_same 315 = .ok (.iload 10, 2) := by decide +kernel
theorem dL_same_317 : decode cL_same 317 = .ok (.imul, 1) := by decide +kernel
theorem dL_same_318 : decode cL_same 318 = .ok (.iconst 2, 1) := by decide +kernel
theorem dL_same_319 : decode cL_same 319 = .ok (.iadd, 1) := by decide +kernel
theorem dL_same_320 : decode cL_same 320 = .ok (.iaload, 1) := by decide +kernel
theorem dL_same_321 : decode cL_same 321 = .ok (.if_icmp .ne 96, 3) := by decide +kernel
theorem dL_same_324 : decode cL_same 324 = .ok (.aload_n 0, 1) := by decide +kernel
theorem dL_same_325 : decode cL_same 325 = .ok (.iload 10, 2) := by decide +kernel
theorem dL_same_327 : decode cL_same 327 = .ok (.iconst 5, 1) := by decide +kernel
theorem dL_same_328 : decode cL_same 328 = .ok (.invokevirtual 99, 3) := by decide +kernel
theorem dL_same_331 : decode cL_same 331 = .ok (.aload_n 3, 1) := by decide +kernel
theorem dL_same_332 : decode cL_same 332 = .ok (.iconst 4, 1) := by decide +kernel
theorem dL_same_333 : decode cL_same 333 = .ok (.iload 10, 2) := by decide +kernel
theorem dL_same_335 : decode cL_same 335 = .ok (.imul, 1) := by decide +kernel
theorem dL_same_336 : decode cL_same 336 = .ok (.iconst 3, 1) := by decide +kernel
theorem dL_same_337 : decode cL_same 337 = .ok (.iadd, 1) := by decide +kernel
theorem dL_same_338 : decode cL_same 338 = .ok (.iaload, 1) := by decide +kernel
theorem dL_same_339 : decode cL_same 339 = .ok (.bipush 16, 2) := by decide +kernel
theorem dL_same_341 : decode cL_same 341 = .ok (.irem, 1) := by decide +kernel
theorem dL_same_342 : decode cL_same 342 = .ok (.if_icmp .ne 75, 3) := by decide +kernel
theorem dL_same_345 : decode cL_same 345 = .ok (.aload_n 0, 1) := by decide +kernel
theorem dL_same_346 : decode cL_same 346 = .ok (.iload 10, 2) := by decide +kernel
theorem dL_same_348 : decode cL_same 348 = .ok (.bipush 6, 2) := by decide +kernel
theorem dL_same_350 : decode cL_same 350 = .ok (.invokevirtual 99, 3) := by decide +kernel
theorem dL_same_353 : decode cL_same 353 = .ok (.iload 11, 2) := by decide +kernel
theorem dL_same_355 : decode cL_same 355 = .ok (.iconst 2, 1) := by decide +kernel
theorem dL_same_356 : decode cL_same 356 = .ok (.irem, 1) := by decide +kernel
theorem dL_same_357 : decode cL_same 357 = .ok (.iload 11, 2) := by decide +kernel
theorem dL_same_359 : decode cL_same 359 = .ok (.iconst 2, 1) := by decide +kernel
theorem dL_same_360 : decode cL_same 360 = .ok (.idiv, 1) := by decide +kernel
theorem dL_same_361 : decode cL_same 361 = .ok (.iadd, 1) := by decide +kernel
theorem dL_same_362 : decode cL_same 362 = .ok (.if_icmp .ne 55, 3) := by decide +kernel
theorem dL_same_365 : decode cL_same 365 = .ok (.aload_n 0, 1) := by decide +kernel
theorem dL_same_366 : decode cL_same 366 = .ok (.iload 10, 2) := by decide +kernel
theorem dL_same_368 : decode cL_same 368 = .ok (.bipush 7, 2) := by decide +kernel
theorem dL_same_370 : decode cL_same 370 = .ok (.invokevirtual 99, 3) := by decide +kernel
theorem dL_same_373 : decode cL_same 373 = .ok (.aload 4, 2) := by decide +kernel
theorem dL_same_375 : decode cL_same 375 = .ok (.iconst 4, 1) := by decide +kernel
theorem dL_same_376 : decode cL_same 376 = .ok (.iload 10, 2) := by decide +kernel
theorem dL_same_378 : decode cL_same 378 = .ok (.imul, 1) := by decide +kernel
theorem dL_same_379 : decode cL_same 379 = .ok (.iaload, 1) := by decide +kernel
theorem dL_same_380 : decode cL_same 380 = .ok (.aload 4, 2) := by decide +kernel
theorem dL_same_382 : decode cL_same 382 = .ok (.iconst 4, 1) := by decide +kernel
theorem dL_same_383 : decode cL_same 383 = .ok (.iload 10, 2) := by decide +kernel
theorem dL_same_385 : decode cL_same 385 = .ok (.imul, 1) := by decide +kernel
theorem dL_same_386 : decode cL_same 386 = .ok (.iconst 1, 1) := by decide +kernel
theorem dL_same_387 : decode cL_same 387 = .ok (.iadd, 1) := by decide +kernel
theorem dL_same_388 : decode cL_same 388 = .ok (.iaload, 1) := by decide +kernel
theorem dL_same_389 : decode cL_same 389 = .ok (.iadd, 1) := by decide +kernel
theorem dL_same_390 : decode cL_same 390 = .ok (.aload 4, 2) := by decide +kernel
theorem dL_same_392 : decode cL_same 392 = .ok (.iconst 4, 1) := by decide +kernel
theorem dL_same_393 : decode cL_same 393 = .ok (.iload 10, 2) := by decide +kernel
theorem dL_same_395 : decode cL_same 395 = .ok (.imul, 1) := by decide +kernel
theorem dL_same_396 : decode cL_same 396 = .ok (.iconst 2, 1) := by decide +kernel
theorem dL_same_397 : decode cL_same 397 = .ok (.iadd, 1) := by decide +kernel
theorem dL_same_398 : decode cL_same 398 = .ok (.iaload, 1) := by decide +kernel
theorem dL_same_399 : decode cL_same 399 = .ok (.iadd, 1) := by decide +kernel
theorem dL_same_400 : decode cL_same 400 = .ok (.aload 4, 2) := by decide +kernel
theorem dL_same_402 : decode cL_same 402 = .ok (.iconst 4, 1) := by decide +kernel
theorem dL_same_403 : decode cL_same 403 = .ok (.iload 10, 2) := by decide +kernel
theorem dL_same_405 : decode cL_same 405 = .ok (.imul, 1) := by decide +kernel
theorem dL_same_406 : decode cL_same 406 = .ok (.iconst 3, 1) := by decide +kernel
theorem dL_same_407 : decode cL_same 407 = .ok (.iadd, 1) := by decide +kernel
theorem dL_same_408 : decode cL_same 408 = .ok (.iaload, 1) := by decide +kernel
theorem dL_same_409 : decode cL_same 409 = .ok (.iadd, 1) := by decide +kernel
theorem dL_same_410 : decode cL_same 410 = .ok (.if_icmp .ne 7, 3) := by decide +kernel
theorem dL_same_413 : decode cL_same 413 = .ok (.iconst 1, 1) := by decide +kernel
theorem dL_same_414 : decode cL_same 414 = .ok (.goto 4, 3) := by decide +kernel
theorem dL_same_417 : decode cL_same 417 = .ok (.iconst 0, 1) := by decide +kernel
theorem dL_same_418 : decode cL_same 418 = .ok (.istore 8, 2) := by decide +kernel
theorem dL_same_420 : decode cL_same 420 = .ok (.iinc 10 1, 3) := by decide +kernel
theorem dL_same_423 : decode cL_same 423 = .ok (.goto (-199), 3) := by decide +kernel
theorem dL_same_426 : decode cL_same 426 = .ok (.iconst 0, 1) := by decide +kernel
theorem dL_same_427 : decode cL_same 427 = .ok (.istore 10, 2) := by decide +kernel
theorem dL_same_429 : decode cL_same 429 = .ok (.iload 10, 2) := by decide +kernel
theorem dL_same_431 : decode cL_same 431 = .ok (.iconst 4, 1) := by decide +kernel
theorem dL_same_432 : decode cL_same 432 = .ok (.if_icmp .ge 243, 3) := by decide +kernel
theorem dL_same_435 : decode cL_same 435 = .ok (.iload 8, 2) := by decide +kernel
theorem dL_same_437 : decode cL_same 437 = .ok (.ifCond .eq 238, 3) := by decide +kernel
theorem dL_same_440 : decode cL_same 440 = .ok (.iload_n 1, 1) := by decide +kernel
theorem dL_same_441 : decode cL_same 441 = .ok (.iload 10, 2) := by decide +kernel
theorem dL_same_443 : decode cL_same 443 = .ok (.ishr, 1) := by decide +kernel
theorem dL_same_444 : decode cL_same 444 = .ok (.iconst 4, 1) := by decide +kernel
theorem dL_same_445 : decode cL_same 445 = .ok (.invokestatic 65, 3) := by decide +kernel
theorem dL_same_448 : decode cL_same 448 = .ok (.istore 11, 2) := by decide +kernel
theorem dL_same_450 : decode cL_same 450 = .ok (.aload 7, 2) := by decide +kernel
theorem dL_same_452 : decode cL_same 452 = .ok (.iconst 2, 1) := by decide +kernel
theorem dL_same_453 : decode cL_same 453 = .ok (.iaload, 1) := by decide +kernel
theorem dL_same_454 : decode cL_same 454 = .ok (.iload_n 1, 1) := by decide +kernel
theorem dL_same_455 : decode cL_same 455 = .ok (.iconst 2, 1) := by decide +kernel
theorem dL_same_456 : decode cL_same 456 = .ok (.iload 10, 2) := by decide +kernel
theorem dL_same_458 : decode cL_same 458 = .ok (.imul, 1) := by decide +kernel
theorem dL_same_459 : decode cL_same 459 = .ok (.ishr, 1) := by decide +kernel
theorem dL_same_460 : decode cL_same 460 = .ok (.bipush 12, 2) := by decide +kernel
theorem dL_same_462 : decode cL_same 462 = .ok (.invokestatic 65, 3) := by decide +kernel
theorem dL_same_465 : decode cL_same 465 = .ok (.iadd, 1) := by decide +kernel
theorem dL_same_466 : decode cL_same 466 = .ok (.istore 12, 2) := by decide +kernel
theorem dL_same_468 : decode cL_same 468 = .ok (.iload 11, 2) := by decide +kernel
theorem dL_same_470 : decode cL_same 470 = .ok (.iload 12, 2) := by decide +kernel
theorem dL_same_472 : decode cL_same 472 = .ok (.aload 5, 2) := by decide +kernel
theorem dL_same_474 : decode cL_same 474 = .ok (.aload 7, 2) := by decide +kernel
theorem dL_same_476 : decode cL_same 476 = .ok (.invokestatic 57, 3) := by decide +kernel
theorem dL_same_479 : decode cL_same 479 = .ok (.istore 13, 2) := by decide +kernel
theorem dL_same_481 : decode cL_same 481 = .ok (.iconst (-1), 1) := by decide +kernel
theorem dL_same_482 : decode cL_same 482 = .ok (.istore 14, 2) := by decide +kernel
theorem dL_same_484 : decode cL_same 484 = .ok (.iconst 0, 1) := by decide +kernel
theorem dL_same_485 : decode cL_same 485 = .ok (.istore 15, 2) := by decide +kernel
theorem dL_same_487 : decode cL_same 487 = .ok (.iload 15, 2) := by decide +kernel
theorem dL_same_489 : decode cL_same 489 = .ok (.aload 7, 2) := by decide +kernel
theorem dL_same_491 : decode cL_same 491 = .ok (.iconst 1, 1) := by decide +kernel
theorem dL_same_492 : decode cL_same 492 = .ok (.iaload, 1) := by decide +kernel
theorem dL_same_493 : decode cL_same 493 = .ok (.if_icmp .ge 76, 3) := by decide +kernel
theorem dL_same_496 : decode cL_same 496 = .ok (.aload_n 3, 1) := by decide +kernel
theorem dL_same_497 : decode cL_same 497 = .ok (.iconst 4, 1) := by decide +kernel
theorem dL_same_498 : decode cL_same 498 = .ok (.iload 15, 2) := by decide +kernel
theorem dL_same_500 : decode cL_same 500 = .ok (.imul, 1) := by decide +kernel
theorem dL_same_501 : decode cL_same 501 = .ok (.iaload, 1) := by decide +kernel
theorem dL_same_502 : decode cL_same 502 = .ok (.ifCond .ne 57, 3) := by decide +kernel
theorem dL_same_505 : decode cL_same 505 = .ok (.aload_n 3, 1) := by decide +kernel
theorem dL_same_506 : decode cL_same 506 = .ok (.iconst 4, 1) := by decide +kernel
theorem dL_same_507 : decode cL_same 507 = .ok (.iload 15, 2) := by decide +kernel
theorem dL_same_509 : decode cL_same 509 = .ok (.imul, 1) := by decide +kernel
theorem dL_same_510 : decode cL_same 510 = .ok (.iconst 2, 1) := by decide +kernel
theorem dL_same_511 : decode cL_same 511 = .ok (.iadd, 1) := by decide +kernel
theorem dL_same_512 : decode cL_same 512 = .ok (.iaload, 1) := by decide +kernel
theorem dL_same_513 : decode cL_same 513 = .ok (.iload 12, 2) := by decide +kernel
theorem dL_same_515 : decode cL_same 515 = .ok (.if_icmp .gt 44, 3) := by decide +kernel
theorem dL_same_518 : decode cL_same 518 = .ok (.iload 12, 2) := by decide +kernel
theorem dL_same_520 : decode cL_same 520 = .ok (.aload_n 3, 1) := by decide +kernel
theorem dL_same_521 : decode cL_same 521 = .ok (.iconst 4, 1) := by decide +kernel
theorem dL_same_522 : decode cL_same 522 = .ok (.iload 15, 2) := by decide +kernel
theorem dL_same_524 : decode cL_same 524 = .ok (.imul, 1) := by decide +kernel
theorem dL_same_525 : decode cL_same 525 = .ok (.iconst 2, 1) := by decide +kernel
theorem dL_same_526 : decode cL_same 526 = .ok (.iadd, 1) := by decide +kernel
theorem dL_same_527 : decode cL_same 527 = .ok (.iaload, 1) := by decide +kernel
theorem dL_same_528 : decode cL_same 528 = .ok (.aload_n 3, 1) := by decide +kernel
theorem dL_same_529 : decode cL_same 529 = .ok (.iconst 4, 1) := by decide +kernel
theorem dL_same_530 : decode cL_same 530 = .ok (.iload 15, 2) := by decide +kernel
theorem dL_same_532 : decode cL_same 532 = .ok (.imul, 1) := by decide +kernel
theorem dL_same_533 : decode cL_same 533 = .ok (.iconst 3, 1) := by decide +kernel
theorem dL_same_534 : decode cL_same 534 = .ok (.iadd, 1) := by decide +kernel
theorem dL_same_535 : decode cL_same 535 = .ok (.iaload, 1) := by decide +kernel
theorem dL_same_536 : decode cL_same 536 = .ok (.bipush 16, 2) := by decide +kernel
theorem dL_same_538 : decode cL_same 538 = .ok (.irem, 1) := by decide +kernel
theorem dL_same_539 : decode cL_same 539 = .ok (.iadd, 1) := by decide +kernel
theorem dL_same_540 : decode cL_same 540 = .ok (.if_icmp .ge 19, 3) := by decide +kernel
theorem dL_same_543 : decode cL_same 543 = .ok (.iload 15, 2) := by decide +kernel
theorem dL_same_545 : decode cL_same 545 = .ok (.aload_n 3, 1) := by decide +kernel
theorem dL_same_546 : decode cL_same 546 = .ok (.invokestatic 47, 3) := by decide +kernel
theorem dL_same_549 : decode cL_same 549 = .ok (.iload 11, 2) := by decide +kernel
theorem dL_same_551 : decode cL_same 551 = .ok (.if_icmp .ne 8, 3) := by decide +kernel
theorem dL_same_554 : decode cL_same 554 = .ok (.iload 15, 2) := by decide +kernel
theorem dL_same_556 : decode cL_same 556 = .ok (.goto 5, 3) := by decide +kernel
theorem dL_same_559 : decode cL_same 559 = .ok (.iload 14, 2) := by decide +kernel
theorem dL_same_561 : decode cL_same 561 = .ok (.istore 14, 2) := by decide +kernel
theorem dL_same_563 : decode cL_same 563 = .ok (.iinc 15 1, 3) := by decide +kernel
theorem dL_same_566 : decode cL_same 566 = .ok (.goto (-79), 3) := by decide +kernel
theorem dL_same_569 : decode cL_same 569 = .ok (.iload_n 1, 1) := by decide +kernel
theorem dL_same_570 : decode cL_same 570 = .ok (.iconst 3, 1) := by decide +kernel
theorem dL_same_571 : decode cL_same 571 = .ok (.ishr, 1) := by decide +kernel
theorem dL_same_572 : decode cL_same 572 = .ok (.aload 7, 2) := by decide +kernel
theorem dL_same_574 : decode cL_same 574 = .ok (.iconst 0, 1) := by decide +kernel
theorem dL_same_575 : decode cL_same 575 = .ok (.iaload, 1) := by decide +kernel
theorem dL_same_576 : decode cL_same 576 = .ok (.invokestatic 65, 3) := by decide +kernel
theorem dL_same_579 : decode cL_same 579 = .ok (.istore 15, 2) := by decide +kernel
theorem dL_same_581 : decode cL_same 581 = .ok (.aload_n 0, 1) := by decide +kernel
theorem dL_same_582 : decode cL_same 582 = .ok (.iload 11, 2) := by decide +kernel
theorem dL_same_584 : decode cL_same 584 = .ok (.iload 12, 2) := by decide +kernel
theorem dL_same_586 : decode cL_same 586 = .ok (.invokevirtual 102, 3) := by decide +kernel
theorem dL_same_589 : decode cL_same 589 = .ok (.iload 13, 2) := by decide +kernel
theorem dL_same_591 : decode cL_same 591 = .ok (.ifCond .ge 7, 3) := by decide +kernel
theorem dL_same_594 : decode cL_same 594 = .ok (.iconst (-1), 1) := by decide +kernel
theorem dL_same_595 : decode cL_same 595 = .ok (.goto 11, 3) := by decide +kernel
theorem dL_same_598 : decode cL_same 598 = .ok (.aload 6, 2) := by decide +kernel
theorem dL_same_600 : decode cL_same 600 = .ok (.iload 13, 2) := by decide +kernel
theorem dL_same_602 : decode cL_same 602 = .ok (.iaload, 1) := by decide +kernel
theorem dL_same_603 : decode cL_same 603 = .ok (.bipush 16, 2) := by decide +kernel
theorem dL_same_605 : decode cL_same 605 = .ok (.irem, 1) := by decide +kernel
theorem dL_same_606 : decode cL_same 606 = .ok (.if_icmp .ne 60, 3) := by decide +kernel
theorem dL_same_609 : decode cL_same 609 = .ok (.aload_n 0, 1) := by decide +kernel
theorem dL_same_610 : decode cL_same 610 = .ok (.iconst 3, 1) := by decide +kernel
theorem dL_same_611 : decode cL_same 611 = .ok (.iload 11, 2) := by decide +kernel
theorem dL_same_613 : decode cL_same 613 = .ok (.iload 12, 2) := by decide +kernel
theorem dL_same_615 : decode cL_same 615 = .ok (.invokevirtual 105, 3) := by decide +kernel
theorem dL_same_618 : decode cL_same 618 = .ok (.iload 14, 2) := by decide +kernel
theorem dL_same_620 : decode cL_same 620 = .ok (.if_icmp .ne 46, 3) := by decide +kernel
theorem dL_same_623 : decode cL_same 623 = .ok (.aload_n 0, 1) := by decide +kernel
theorem dL_same_624 : decode cL_same 624 = .ok (.iload 15, 2) := by decide +kernel
theorem dL_same_626 : decode cL_same 626 = .ok (.iload 10, 2) := by decide +kernel
theorem dL_same_628 : decode cL_same 628 = .ok (.iload 11, 2) := by decide +kernel
theorem dL_same_630 : decode cL_same 630 = .ok (.iload 12, 2) := by decide +kernel
theorem dL_same_632 : decode cL_same 632 = .ok (.iconst 1, 1) := by decide +kernel
theorem dL_same_633 : decode cL_same 633 = .ok (.iload 10, 2) := by decide +kernel
theorem dL_same_635 : decode cL_same 635 = .ok (.iadd, 1) := by decide +kernel
theorem dL_same_636 : decode cL_same 636 = .ok (.invokevirtual 109, 3) := by decide +kernel
theorem dL_same_639 : decode cL_same 639 = .ok (.iload 15, 2) := by decide +kernel
theorem dL_same_641 : decode cL_same 641 = .ok (.iload 10, 2) := by decide +kernel
theorem dL_same_643 : decode cL_same 643 = .ok (.iload 11, 2) := by decide +kernel
theorem dL_same_645 : decode cL_same 645 = .ok (.iload 12, 2) := by decide +kernel
theorem dL_same_647 : decode cL_same 647 = .ok (.iconst 1, 1) := by decide +kernel
theorem dL_same_648 : decode cL_same 648 = .ok (.iload 10, 2) := by decide +kernel
theorem dL_same_650 : decode cL_same 650 = .ok (.iadd, 1) := by decide +kernel
theorem dL_same_651 : decode cL_same 651 = .ok (.iconst (-1), 1) := by decide +kernel
theorem dL_same_652 : decode cL_same 652 = .ok (.aload_n 2, 1) := by decide +kernel
theorem dL_same_653 : decode cL_same 653 = .ok (.aload_n 3, 1) := by decide +kernel
theorem dL_same_654 : decode cL_same 654 = .ok (.aload 7, 2) := by decide +kernel
theorem dL_same_656 : decode cL_same 656 = .ok (.invokestatic 73, 3) := by decide +kernel
theorem dL_same_659 : decode cL_same 659 = .ok (.if_icmp .ne 7, 3) := by decide +kernel
theorem dL_same_662 : decode cL_same 662 = .ok (.iconst 1, 1) := by decide +kernel
theorem dL_same_663 : decode cL_same 663 = .ok (.goto 4, 3) := by decide +kernel
theorem dL_same_666 : decode cL_same 666 = .ok (.iconst 0, 1) := by decide +kernel
theorem dL_same_667 : decode cL_same 667 = .ok (.istore 8, 2) := by decide +kernel
theorem dL_same_669 : decode cL_same 669 = .ok (.iinc 10 1, 3) := by decide +kernel
theorem dL_same_672 : decode cL_same 672 = .ok (.goto (-243), 3) := by decide +kernel
theorem dL_same_675 : decode cL_same 675 = .ok (.iload 8, 2) := by decide +kernel
theorem dL_same_677 : decode cL_same 677 = .ok (.ifCond .eq 16, 3) := by decide +kernel
theorem dL_same_680 : decode cL_same 680 = .ok (.aload_n 0, 1) := by decide +kernel
theorem dL_same_681 : decode cL_same 681 = .ok (.invokevirtual 111, 3) := by decide +kernel
theorem dL_same_684 : decode cL_same 684 = .ok (.iload 9, 2) := by decide +kernel
theorem dL_same_686 : decode cL_same 686 = .ok (.if_icmp .ne 7, 3) := by decide +kernel
theorem dL_same_689 : decode cL_same 689 = .ok (.iconst 1, 1) := by decide +kernel
theorem dL_same_690 : decode cL_same 690 = .ok (.goto 4, 3) := by decide +kernel
theorem dL_same_693 : decode cL_same 693 = .ok (.iconst 0, 1) := by decide +kernel
theorem dL_same_694 : decode cL_same 694 = .ok (.ireturn, 1) := by decide +kernel
theorem dL_law_0 : decode cL_law 0 = .ok (.new 11, 3) := by decide +kernel
theorem dL_law_3 : decode cL_law 3 = .ok (.dup, 1) := by decide +kernel
theorem dL_law_4 : decode cL_law 4 = .ok (.invokespecial 114, 3) := by decide +kernel
theorem dL_law_7 : decode cL_law 7 = .ok (.astore_n 1, 1) := by decide +kernel
theorem dL_law_8 : decode cL_law 8 = .ok (.bipush 64, 2) := by decide +kernel
theorem dL_law_10 : decode cL_law 10 = .ok (.newarray .int, 2) := by decide +kernel
theorem dL_law_12 : decode cL_law 12 = .ok (.astore_n 2, 1) := by decide +kernel
theorem dL_law_13 : decode cL_law 13 = .ok (.bipush 64, 2) := by decide +kernel
theorem dL_law_15 : decode cL_law 15 = .ok (.newarray .int, 2) := by decide +kernel
theorem dL_law_17 : decode cL_law 17 = .ok (.astore_n 3, 1) := by decide +kernel
theorem dL_law_18 : decode cL_law 18 = .ok (.bipush 64, 2) := by decide +kernel
theorem dL_law_20 : decode cL_law 20 = .ok (.newarray .int, 2) := by decide +kernel
theorem dL_law_22 : decode cL_law 22 = .ok (.astore 4, 2) := by decide +kernel
theorem dL_law_24 : decode cL_law 24 = .ok (.bipush 64, 2) := by decide +kernel
theorem dL_law_26 : decode cL_law 26 = .ok (.newarray .int, 2) := by decide +kernel
theorem dL_law_28 : decode cL_law 28 = .ok (.astore 5, 2) := by decide +kernel
theorem dL_law_30 : decode cL_law 30 = .ok (.bipush 64, 2) := by decide +kernel
theorem dL_law_32 : decode cL_law 32 = .ok (.newarray .int, 2) := by decide +kernel
theorem dL_law_34 : decode cL_law 34 = .ok (.astore 6, 2) := by decide +kernel
theorem dL_law_36 : decode cL_law 36 = .ok (.bipush 14, 2) := by decide +kernel
theorem dL_law_38 : decode cL_law 38 = .ok (.newarray .int, 2) := by decide +kernel
theorem dL_law_40 : decode cL_law 40 = .ok (.astore 7, 2) := by decide +kernel
theorem dL_law_42 : decode cL_law 42 = .ok (.iconst 3, 1) := by decide +kernel
theorem dL_law_43 : decode cL_law 43 = .ok (.newarray .int, 2) := by decide +kernel
theorem dL_law_45 : decode cL_law 45 = .ok (.astore 8, 2) := by decide +kernel
theorem dL_law_47 : decode cL_law 47 = .ok (.iconst 1, 1) := by decide +kernel
theorem dL_law_48 : decode cL_law 48 = .ok (.istore 9, 2) := by decide +kernel
theorem dL_law_50 : decode cL_law 50 = .ok (.iconst 0, 1) := by decide +kernel
theorem dL_law_51 : decode cL_law 51 = .ok (.istore 10, 2) := by decide +kernel
theorem dL_law_53 : decode cL_law 53 = .ok (.iload 10, 2) := by decide +kernel
theorem dL_law_55 : decode cL_law 55 = .ok (.iconst 4, 1) := by decide +kernel
theorem dL_law_56 : decode cL_law 56 = .ok (.if_icmp .ge 90, 3) := by decide +kernel
theorem dL_law_59 : decode cL_law 59 = .ok (.aload 7, 2) := by decide +kernel
theorem dL_law_61 : decode cL_law 61 = .ok (.iload 10, 2) := by decide +kernel
theorem dL_law_63 : decode cL_law 63 = .ok (.iconst 1, 1) := by decide +kernel
theorem dL_law_64 : decode cL_law 64 = .ok (.aload_n 0, 1) := by decide +kernel
theorem dL_law_65 : decode cL_law 65 = .ok (.sipush 700, 3) := by decide +kernel
theorem dL_law_68 : decode cL_law 68 = .ok (.iload 10, 2) := by decide +kernel
theorem dL_law_70 : decode cL_law 70 = .ok (.iadd, 1) := by decide +kernel
theorem dL_law_71 : decode cL_law 71 = .ok (.invokestatic 115, 3) := by decide +kernel
theorem dL_law_74 : decode cL_law 74 = .ok (.bipush 15, 2) := by decide +kernel
theorem dL_law_76 : decode cL_law 76 = .ok (.invokestatic 65, 3) := by decide +kernel
theorem dL_law_79 : decode cL_law 79 = .ok (.iadd, 1) := by decide +kernel
theorem dL_law_80 : decode cL_law 80 = .ok (.iastore, 1) := by decide +kernel
theorem dL_law_81 : decode cL_law 81 = .ok (.aload 7, 2) := by decide +kernel
theorem dL_law_83 : decode cL_law 83 = .ok (.iconst 4, 1) := by decide +kernel
theorem dL_law_84 : decode cL_law 84 = .ok (.iload 10, 2) := by decide +kernel
theorem dL_law_86 : decode cL_law 86 = .ok (.iadd, 1) := by decide +kernel
theorem dL_law_87 : decode cL_law 87 = .ok (.iconst 5, 1) := by decide +kernel
theorem dL_law_88 : decode cL_law 88 = .ok (.aload_n 0, 1) := by decide +kernel
theorem dL_law_89 : decode cL_law 89 = .ok (.sipush 710, 3) := by decide +kernel
theorem dL_law_92 : decode cL_law 92 = .ok (.iload 10, 2) := by decide +kernel
theorem dL_law_94 : decode cL_law 94 = .ok (.iadd, 1) := by decide +kernel
theorem dL_law_95 : decode cL_law 95 = .ok (.invokestatic 115, 3) := by decide +kernel
theorem dL_law_98 : decode cL_law 98 = .ok (.bipush 40, 2) := by decide +kernel
theorem dL_law_100 : decode cL_law 100 = .ok (.invokestatic 65, 3) := by decide +kernel
theorem dL_law_103 : decode cL_law 103 = .ok (.iadd, 1) := by decide +kernel
theorem dL_law_104 : decode cL_law 104 = .ok (.iastore, 1) := by decide +kernel
theorem dL_law_105 : decode cL_law 105 = .ok (.iload 9, 2) := by decide +kernel
theorem dL_law_107 : decode cL_law 107 = .ok (.ifCond .eq 30, 3) := by decide +kernel
theorem dL_law_110 : decode cL_law 110 = .ok (.aload_n 1, 1) := by decide +kernel
theorem dL_law_111 : decode cL_law 111 = .ok (.iload 10, 2) := by decide +kernel
theorem dL_law_113 : decode cL_law 113 = .ok (.aload 7, 2) := by decide +kernel
theorem dL_law_115 : decode cL_law 115 = .ok (.iload 10, 2) := by decide +kernel
theorem dL_law_117 : decode cL_law 117 = .ok (.iaload, 1) := by decide +kernel
theorem dL_law_118 : decode cL_law 118 = .ok (.aload 7, 2) := by decide +kernel
theorem dL_law_120 : decode cL_law 120 = .ok (.iconst 4, 1) := by decide +kernel
theorem dL_law_121 : decode cL_law 121 = .ok (.iload 10, 2) := by decide +kernel
theorem dL_law_123 : decode cL_law 123 = .ok (.iadd, 1) := by decide +kernel
theorem dL_law_124 : decode cL_law 124 = .ok (.iaload, 1) := by decide +kernel
theorem dL_law_125 : decode cL_law 125 = .ok (.invokevirtual 119, 3) := by decide +kernel
theorem dL_law_128 : decode cL_law 128 = .ok (.bipush 10, 2) := by decide +kernel
theorem dL_law_130 : decode cL_law 130 = .ok (.if_icmp .ne 7, 3) := by decide +kernel
theorem dL_law_133 : decode cL_law 133 = .ok (.iconst 1, 1) := by decide +kernel
theorem dL_law_134 : decode cL_law 134 = .ok (.goto 4, 3) := by decide +kernel
theorem dL_law_137 : decode cL_law 137 = .ok (.iconst 0, 1) := by decide +kernel
theorem dL_law_138 : decode cL_law 138 = .ok (.istore 9, 2) := by decide +kernel
theorem dL_law_140 : decode cL_law 140 = .ok (.iinc 10 1, 3) := by decide +kernel
theorem dL_law_143 : decode cL_law 143 = .ok (.goto (-90), 3) := by decide +kernel
theorem dL_law_146 : decode cL_law 146 = .ok (.iconst 0, 1) := by decide +kernel
theorem dL_law_147 : decode cL_law 147 = .ok (.istore 10, 2) := by decide +kernel
theorem dL_law_149 : decode cL_law 149 = .ok (.iload 10, 2) := by decide +kernel
theorem dL_law_151 : decode cL_law 151 = .ok (.sipush 150, 3) := by decide +kernel
theorem dL_law_154 : decode cL_law 154 = .ok (.if_icmp .ge 656, 3) := by decide +kernel
theorem dL_law_157 : decode cL_law 157 = .ok (.iload 9, 2) := by decide +kernel
theorem dL_law_159 : decode cL_law 159 = .ok (.ifCond .eq 651, 3) := by decide +kernel
theorem dL_law_162 : decode cL_law 162 = .ok (.aload_n 0, 1) := by decide +kernel
theorem dL_law_163 : decode cL_law 163 = .ok (.iload 10, 2) := by decide +kernel
theorem dL_law_165 : decode cL_law 165 = .ok (.invokestatic 115, 3) := by decide +kernel
theorem dL_law_168 : decode cL_law 168 = .ok (.istore 11, 2) := by decide +kernel
theorem dL_law_170 : decode cL_law 170 = .ok (.iload 11, 2) := by decide +kernel
theorem dL_law_172 : decode cL_law 172 = .ok (.bipush 32, 2) := by decide +kernel
theorem dL_law_174 : decode cL_law 174 = .ok (.invokestatic 65, 3) := by decide +kernel
theorem dL_law_177 : decode cL_law 177 = .ok (.istore 12, 2) := by decide +kernel
theorem dL_law_179 : decode cL_law 179 = .ok (.iload 11, 2) := by decide +kernel
theorem dL_law_181 : decode cL_law 181 = .ok (.iconst 5, 1) := by decide +kernel
theorem dL_law_182 : decode cL_law 182 = .ok (.ishr, 1) := by decide +kernel
theorem dL_law_183 : decode cL_law 183 = .ok (.istore 13, 2) := by decide +kernel
theorem dL_law_185 : decode cL_law 185 = .ok (.iload 12, 2) := by decide +kernel
theorem dL_law_187 : decode cL_law 187 = .ok (.iconst 3, 1) := by decide +kernel
theorem dL_law_188 : decode cL_law 188 = .ok (.if_icmp .ge 12, 3) := by decide +kernel
theorem dL_law_191 : decode cL_law 191 = .ok (.aload 8, 2) := by decide +kernel
theorem dL_law_193 : decode cL_law 193 = .ok (.iconst 0, 1) := by decide +kernel
theorem dL_law_194 : decode cL_law 194 = .ok (.iaload, 1) := by decide +kernel
theorem dL_law_195 : decode cL_law 195 = .ok (.bipush 8, 2) := by decide +kernel
theorem dL_law_197 : decode cL_law 197 = .ok (.if_icmp .lt 10, 3) := by decide +kernel
theorem dL_law_200 : decode cL_law 200 = .ok (.aload 8, 2) := by decide +kernel
theorem dL_law_202 : decode cL_law 202 = .ok (.iconst 0, 1) := by decide +kernel
theorem dL_law_203 : decode cL_law 203 = .ok (.iaload, 1) := by decide +kernel
theorem dL_law_204 : decode cL_law 204 = .ok (.ifCond .ne 179, 3) := by decide +kernel
theorem dL_law_207 : decode cL_law 207 = .ok (.bipush 8, 2) := by decide +kernel
theorem dL_law_209 : decode cL_law 209 = .ok (.aload 8, 2) := by decide +kernel
theorem dL_law_211 : decode cL_law 211 = .ok (.iconst 0, 1) := by decide +kernel
theorem dL_law_212 : decode cL_law 212 = .ok (.iaload, 1) := by decide +kernel
theorem dL_law_213 : decode cL_law 213 = .ok (.imul, 1) := by decide +kernel
theorem dL_law_214 : decode cL_law 214 = .ok (.istore 14, 2) := by decide +kernel
theorem dL_law_216 : decode cL_law 216 = .ok (.aload_n 2, 1) := by decide +kernel
theorem dL_law_217 : decode cL_law 217 = .ok (.iload 14, 2) := by decide +kernel
theorem dL_law_219 : decode cL_law 219 = .ok (.iconst 1, 1) := by decide +kernel
theorem dL_law_220 : decode cL_law 220 = .ok (.iadd, 1) := by decide +kernel
theorem dL_law_221 : decode cL_law 221 = .ok (.iload 13, 2) := by decide +kernel
theorem dL_law_223 : decode cL_law 223 = .ok (.iconst 4, 1) := by decide +kernel
theorem dL_law_224 : decode cL_law 224 = .ok (.invokestatic 65, 3) := by decide +kernel
theorem dL_law_227 : decode cL_law 227 = .ok (.iastore, 1) := by decide +kernel
theorem dL_law_228 : decode cL_law 228 = .ok (.aload_n 2, 1) := by decide +kernel
theorem dL_law_229 : decode cL_law 229 = .ok (.iload 14, 2) := by decide +kernel
theorem dL_law_231 : decode cL_law 231 = .ok (.iconst 2, 1) := by decide +kernel
theorem dL_law_232 : decode cL_law 232 = .ok (.iadd, 1) := by decide +kernel
theorem dL_law_233 : decode cL_law 233 = .ok (.iload 13, 2) := by decide +kernel
theorem dL_law_235 : decode cL_law 235 = .ok (.iconst 2, 1) := by decide +kernel
theorem dL_law_236 : decode cL_law 236 = .ok (.ishr, 1) := by decide +kernel
theorem dL_law_237 : decode cL_law 237 = .ok (.bipush 6, 2) := by decide +kernel
theorem dL_law_239 : decode cL_law 239 = .ok (.invokestatic 65, 3) := by decide +kernel
theorem dL_law_242 : decode cL_law 242 = .ok (.iastore, 1) := by decide +kernel
theorem dL_law_243 : decode cL_law 243 = .ok (.aload_n 2, 1) := by decide +kernel
theorem dL_law_244 : decode cL_law 244 = .ok (.iload 14, 2) := by decide +kernel
theorem dL_law_246 : decode cL_law 246 = .ok (.iconst 3, 1) := by decide +kernel
theorem dL_law_247 : decode cL_law 247 = .ok (.iadd, 1) := by decide +kernel
theorem dL_law_248 : decode cL_law 248 = .ok (.aload_n 2, 1) := by decide +kernel
theorem dL_law_249 : decode cL_law 249 = .ok (.iload 14, 2) := by decide +kernel
theorem dL_law_251 : decode cL_law 251 = .ok (.iconst 2, 1) := by decide +kernel
theorem dL_law_252 : decode cL_law 252 = .ok (.iadd, 1) := by decide +kernel
theorem dL_law_253 : decode cL_law 253 = .ok (.iaload, 1) := by decide +kernel
theorem dL_law_254 : decode cL_law 254 = .ok (.iconst 1, 1) := by decide +kernel
theorem dL_law_255 : decode cL_law 255 = .ok (.iadd, 1) := by decide +kernel
theorem dL_law_256 : decode cL_law 256 = .ok (.iload 13, 2) := by decide +kernel
theorem dL_law_258 : decode cL_law 258 = .ok (.iconst 5, 1) := by decide +kernel
theorem dL_law_259 : decode cL_law 259 = .ok (.ishr, 1) := by decide +kernel
theorem dL_law_260 : decode cL_law 260 = .ok (.iconst 5, 1) := by decide +kernel
theorem dL_law_261 : decode cL_law 261 = .ok (.invokestatic 65, 3) := by decide +kernel
theorem dL_law_264 : decode cL_law 264 = .ok (.iadd, 1) := by decide +kernel
theorem dL_law_265 : decode cL_law 265 = .ok (.bipush 6, 2) := by decide +kernel
theorem dL_law_267 : decode cL_law 267 = .ok (.irem, 1) := by decide +kernel
theorem dL_law_268 : decode cL_law 268 = .ok (.iastore, 1) := by decide +kernel
theorem dL_law_269 : decode cL_law 269 = .ok (.aload_n 2, 1) := by decide +kernel
theorem dL_law_270 : decode cL_law 270 = .ok (.iload 14, 2) := by decide +kernel
theorem dL_law_272 : decode cL_law 272 = .ok (.iconst 4, 1) := by decide +kernel
theorem dL_law_273 : decode cL_law 273 = .ok (.iadd, 1) := by decide +kernel
theorem dL_law_274 : decode cL_law 274 = .ok (.iload 13, 2) := by decide +kernel
theorem dL_law_276 : decode cL_law 276 = .ok (.bipush 8, 2) := by decide +kernel
theorem dL_law_278 : decode cL_law 278 = .ok (.ishr, 1) := by decide +kernel
theorem dL_law_279 : decode cL_law 279 = .ok (.iconst 5, 1) := by decide +kernel
theorem dL_law_280 : decode cL_law 280 = .ok (.invokestatic 65, 3) := by decide +kernel
theorem dL_law_283 : decode cL_law 283 = .ok (.iastore, 1) := by decide +kernel
theorem dL_law_284 : decode cL_law 284 = .ok (.aload_n 2, 1) := by decide +kernel
theorem dL_law_285 : decode cL_law 285 = .ok (.iload 14, 2) := by decide +kernel
theorem dL_law_287 : decode cL_law 287 = .ok (.iconst 5, 1) := by decide +kernel
theorem dL_law_288 : decode cL_law 288 = .ok (.iadd, 1) := by decide +kernel
theorem dL_law_289 : decode cL_law 289 = .ok (.aload 7, 2) := by decide +kernel
theorem dL_law_291 : decode cL_law 291 = .ok (.bipush 8, 2) := by decide +kernel
theorem dL_law_293 : decode cL_law 293 = .ok (.aload_n 2, 1) := by decide +kernel
theorem dL_law_294 : decode cL_law 294 = .ok (.iload 14, 2) := by decide +kernel
theorem dL_law_296 : decode cL_law 296 = .ok (.iconst 2, 1) := by decide +kernel
theorem dL_law_297 : decode cL_law 297 = .ok (.iadd, 1) := by decide +kernel
theorem dL_law_298 : decode cL_law 298 = .ok (.iaload, 1) := by decide +kernel
theorem dL_law_299 : decode cL_law 299 = .ok (.iadd, 1) := by decide +kernel
theorem dL_law_300 : decode cL_law 300 = .ok (.iaload, 1) := by decide +kernel
theorem dL_law_301 : decode cL_law 301 = .ok (.iconst 1, 1) := by decide +kernel
theorem dL_law_302 : decode cL_law 302 = .ok (.if_icmp .ne 7, 3) := by decide +kernel
theorem dL_law_305 : decode cL_law 305 = .ok (.iconst 0, 1) := by decide +kernel
theorem dL_law_306 : decode cL_law 306 = .ok (.goto 5, 3) := by decide +kernel
theorem dL_law_309 : decode cL_law 309 = .ok (.bipush (-50), 2) := by decide +kernel
theorem dL_law_311 : decode cL_law 311 = .ok (.iastore, 1) := by decide +kernel
theorem dL_law_312 : decode cL_law 312 = .ok (.aload_n 2, 1) := by decide +kernel
theorem dL_law_313 : decode cL_law 313 = .ok (.iload 14, 2) := by decide +kernel
theorem dL_law_315 : decode cL_law 315 = .ok (.bipush 6, 2) := by decide +kernel
theorem dL_law_317 : decode cL_law 317 = .ok (.iadd, 1) := by decide +kernel
theorem dL_law_318 : decode cL_law 318 = .ok (.aload 8, 2) := by decide +kernel
theorem dL_law_320 : decode cL_law 320 = .ok (.iconst 2, 1) := by decide +kernel
theorem dL_law_321 : decode cL_law 321 = .ok (.iaload, 1) := by decide +kernel
theorem dL_law_322 : decode cL_law 322 = .ok (.bipush 100, 2) := by decide +kernel
theorem dL_law_324 : decode cL_law 324 = .ok (.iadd, 1) := by decide +kernel
theorem dL_law_325 : decode cL_law 325 = .ok (.iastore, 1) := by decide +kernel
theorem dL_law_326 : decode cL_law 326 = .ok (.aload 8, 2) := by decide +kernel
theorem dL_law_328 : decode cL_law 328 = .ok (.iconst 0, 1) := by decide +kernel
theorem dL_law_329 : decode cL_law 329 = .ok (.dup2, 1) := by decide +kernel
theorem dL_law_330 : decode cL_law 330 = .ok (.iaload, 1) := by decide +kernel
theorem dL_law_331 : decode cL_law 331 = .ok (.iconst 1, 1) := by decide +kernel
theorem dL_law_332 : decode cL_law 332 = .ok (.iadd, 1) := by decide +kernel
theorem dL_law_333 : decode cL_law 333 = .ok (.iastore, 1) := by decide +kernel
theorem dL_law_334 : decode cL_law 334 = .ok (.aload_n 1, 1) := by decide +kernel
theorem dL_law_335 : decode cL_law 335 = .ok (.aload_n 2, 1) := by decide +kernel
theorem dL_law_336 : decode cL_law 336 = .ok (.iload 14, 2) := by decide +kernel
theorem dL_law_338 : decode cL_law 338 = .ok (.iconst 1, 1) := by decide +kernel
theorem dL_law_339 : decode cL_law 339 = .ok (.iadd, 1) := by decide +kernel
theorem dL_law_340 : decode cL_law 340 = .ok (.iaload, 1) := by decide +kernel
theorem dL_law_341 : decode cL_law 341 = .ok (.aload_n 2, 1) := by decide +kernel
theorem dL_law_342 : decode cL_law 342 = .ok (.iload 14, 2) := by decide +kernel
theorem dL_law_344 : decode cL_law 344 = .ok (.iconst 2, 1) := by decide +kernel
theorem dL_law_345 : decode cL_law 345 = .ok (.iadd, 1) := by decide +kernel
theorem dL_law_346 : decode cL_law 346 = .ok (.iaload, 1) := by decide +kernel
theorem dL_law_347 : decode cL_law 347 = .ok (.aload_n 2, 1) := by decide +kernel
theorem dL_law_348 : decode cL_law 348 = .ok (.iload 14, 2) := by decide +kernel
theorem dL_law_350 : decode cL_law 350 = .ok (.iconst 3, 1) := by decide +kernel
theorem dL_law_351 : decode cL_law 351 = .ok (.iadd, 1) := by decide +kernel
theorem dL_law_352 : decode cL_law 352 = .ok (.iaload, 1) := by decide +kernel
theorem dL_law_353 : decode cL_law 353 = .ok (.aload_n 2, 1) := by decide +kernel
theorem dL_law_354 : decode cL_law 354 = .ok (.iload 14, 2) := by decide +kernel
theorem dL_law_356 : decode cL_law 356 = .ok (.iconst 4, 1) := by decide +kernel
theorem dL_law_357 : decode cL_law 357 = .ok (.iadd, 1) := by decide +kernel
theorem dL_law_358 : decode cL_law 358 = .ok (.iaload, 1) := by decide +kernel
theorem dL_law_359 : decode cL_law 359 = .ok (.iconst 1, 1) := by decide +kernel
theorem dL_law_360 : decode cL_law 360 = .ok (.isub, 1) := by decide +kernel
theorem dL_law_361 : decode cL_law 361 = .ok (.invokevirtual 122, 3) := by decide +kernel
theorem dL_law_364 : decode cL_law 364 = .ok (.aload 8, 2) := by decide +kernel
theorem dL_law_366 : decode cL_law 366 = .ok (.iconst 0, 1) := by decide +kernel
theorem dL_law_367 : decode cL_law 367 = .ok (.iaload, 1) := by decide +kernel
theorem dL_law_368 : decode cL_law 368 = .ok (.iconst 1, 1) := by decide +kernel
theorem dL_law_369 : decode cL_law 369 = .ok (.isub, 1) := by decide +kernel
theorem dL_law_370 : decode cL_law 370 = .ok (.if_icmp .ne 7, 3) := by decide +kernel
theorem dL_law_373 : decode cL_law 373 = .ok (.iconst 1, 1) := by decide +kernel
theorem dL_law_374 : decode cL_law 374 = .ok (.goto 4, 3) := by decide +kernel
theorem dL_law_377 : decode cL_law 377 = .ok (.iconst 0, 1) := by decide +kernel
theorem dL_law_378 : decode cL_law 378 = .ok (.istore 9, 2) := by decide +kernel
theorem dL_law_380 : decode cL_law 380 = .ok (.goto 391, 3) := by decide +kernel
theorem dL_law_383 : decode cL_law 383 = .ok (.iload 12, 2) := by decide +kernel
theorem dL_law_385 : decode cL_law 385 = .ok (.bipush 18, 2) := by decide +kernel
theorem dL_law_387 : decode cL_law 387 = .ok (.if_icmp .ge 60, 3) := by decide +kernel
theorem dL_law_390 : decode cL_law 390 = .ok (.aload_n 1, 1) := by decide +kernel
theorem dL_law_391 : decode cL_law 391 = .ok (.iload 12, 2) := by decide +kernel
theorem dL_law_393 : decode cL_law 393 = .ok (.bipush 9, 2) := by decide +kernel
theorem dL_law_395 : decode cL_law 395 = .ok (.if_icmp .ge 7, 3) := by decide +kernel
theorem dL_law_398 : decode cL_law 398 = .ok (.iconst 0, 1) := by decide +kernel
theorem dL_law_399 : decode cL_law 399 = .ok (.goto 26, 3) := by decide +kernel
theorem dL_law_402 : decode cL_law 402 = .ok (.iload 12, 2) := by decide +kernel
theorem dL_law_404 : decode cL_law 404 = .ok (.bipush 12, 2) := by decide +kernel
theorem dL_law_406 : decode cL_law 406 = .ok (.if_icmp .ge 7, 3) := by decide +kernel
theorem dL_law_409 : decode cL_law 409 = .ok (.iconst 1, 1) := by decide +kernel
theorem dL_law_410 : decode cL_law 410 = .ok (.goto 15, 3) := by decide +kernel
theorem dL_law_413 : decode cL_law 413 = .ok (.iload 12, 2) := by decide +kernel
theorem dL_law_415 : decode cL_law 415 = .ok (.bipush 12, 2) := by decide +kernel
theorem dL_law_417 : decode cL_law 417 = .ok (.if_icmp .ne 7, 3) := by decide +kernel
theorem dL_law_420 : decode cL_law 420 = .ok (.iconst 2, 1) := by decide +kernel
theorem dL_law_421 : decode cL_law 421 = .ok (.goto 4, 3) := by decide +kernel
theorem dL_law_424 : decode cL_law 424 = .ok (.iconst 3, 1) := by decide +kernel
theorem dL_law_425 : decode cL_law 425 = .ok (.iload 13, 2) := by decide +kernel
theorem dL_law_427 : decode cL_law 427 = .ok (.aload_n 2, 1) := by decide +kernel
theorem dL_law_428 : decode cL_law 428 = .ok (.aload_n 3, 1) := by decide +kernel
theorem dL_law_429 : decode cL_law 429 = .ok (.aload 4, 2) := by decide +kernel
theorem dL_law_431 : decode cL_law 431 = .ok (.aload 5, 2) := by decide +kernel
theorem dL_law_433 : decode cL_law 433 = .ok (.aload 6, 2) := by decide +kernel
theorem dL_law_435 : decode cL_law 435 = .ok (.aload 7, 2) := by decide +kernel
theorem dL_law_437 : decode cL_law 437 = .ok (.aload 8, 2) := by decide +kernel
theorem dL_law_439 : decode cL_law 439 = .ok (.invokestatic 125, 3) := by decide +kernel
theorem dL_law_442 : decode cL_law 442 = .ok (.istore 9, 2) := by decide +kernel
theorem dL_law_444 : decode cL_law 444 = .ok (.goto 327, 3) := by decide +kernel
theorem dL_law_447 : decode cL_law 447 = .ok (.iload 12, 2) := by decide +kernel
theorem dL_law_449 : decode cL_law 449 = .ok (.bipush 24, 2) := by decide +kernel
theorem dL_law_451 : decode cL_law 451 = .ok (.if_icmp .ge 42, 3) := by decide +kernel
theorem dL_law_454 : decode cL_law 454 = .ok (.aload_n 1, 1) := by decide +kernel
theorem dL_law_455 : decode cL_law 455 = .ok (.iload 12, 2) := by decide +kernel
theorem dL_law_457 : decode cL_law 457 = .ok (.bipush 20, 2) := by decide +kernel
theorem dL_law_459 : decode cL_law 459 = .ok (.if_icmp .ge 7, 3) := by decide +kernel
theorem dL_law_462 : decode cL_law 462 = .ok (.iconst 0, 1) := by decide +kernel
theorem dL_law_463 : decode cL_law 463 = .ok (.goto 8, 3) := by decide +kernel
theorem dL_law_466 : decode cL_law 466 = .ok (.iload 12, 2) := by decide +kernel
theorem dL_law_468 : decode cL_law 468 = .ok (.bipush 19, 2) := by decide +kernel
theorem dL_law_470 : decode cL_law 470 = .ok (.isub, 1) := by decide +kernel
theorem dL_law_471 : decode cL_law 471 = .ok (.iload 13, 2) := by decide +kernel
theorem dL_law_473 : decode cL_law 473 = .ok (.aload_n 2, 1) := by decide +kernel
theorem dL_law_474 : decode cL_law 474 = .ok (.aload_n 3, 1) := by decide +kernel
theorem dL_law_475 : decode cL_law 475 = .ok (.aload 4, 2) := by decide +kernel
theorem dL_law_477 : decode cL_law 477 = .ok (.aload 5, 2) := by decide +kernel
theorem dL_law_479 : decode cL_law 479 = .ok (.aload 6, 2) := by decide +kernel
theorem dL_law_481 : decode cL_law 481 = .ok (.aload 7, 2) := by decide +kernel
theorem dL_law_483 : decode cL_law 483 = .ok (.aload 8, 2) := by decide +kernel
theorem dL_law_485 : decode cL_law 485 = .ok (.invokestatic 129, 3) := by decide +kernel
theorem dL_law_488 : decode cL_law 488 = .ok (.istore 9, 2) := by decide +kernel
theorem dL_law_490 : decode cL_law 490 = .ok (.goto 281, 3) := by decide +kernel
theorem dL_law_493 : decode cL_law 493 = .ok (.iload 12, 2) := by decide +kernel
theorem dL_law_495 : decode cL_law 495 = .ok (.bipush 24, 2) := by decide +kernel
theorem dL_law_497 : decode cL_law 497 = .ok (.if_icmp .ne 86, 3) := by decide +kernel
theorem dL_law_500 : decode cL_law 500 = .ok (.iload 13, 2) := by decide +kernel
theorem dL_law_502 : decode cL_law 502 = .ok (.iconst 4, 1) := by decide +kernel
theorem dL_law_503 : decode cL_law 503 = .ok (.invokestatic 65, 3) := by decide +kernel
theorem dL_law_506 : decode cL_law 506 = .ok (.istore 14, 2) := by decide +kernel
theorem dL_law_508 : decode cL_law 508 = .ok (.aload 7, 2) := by decide +kernel
theorem dL_law_510 : decode cL_law 510 = .ok (.iconst 4, 1) := by decide +kernel
theorem dL_law_511 : decode cL_law 511 = .ok (.iload 14, 2) := by decide +kernel
theorem dL_law_513 : decode cL_law 513 = .ok (.iadd, 1) := by decide +kernel
theorem dL_law_514 : decode cL_law 514 = .ok (.iaload, 1) := by decide +kernel
theorem dL_law_515 : decode cL_law 515 = .ok (.istore 15, 2) := by decide +kernel
theorem dL_law_517 : decode cL_law 517 = .ok (.aload 7, 2) := by decide +kernel
theorem dL_law_519 : decode cL_law 519 = .ok (.iload 14, 2) := by decide +kernel
theorem dL_law_521 : decode cL_law 521 = .ok (.iload 13, 2) := by decide +kernel
theorem dL_law_523 : decode cL_law 523 = .ok (.iconst 2, 1) := by decide +kernel
theorem dL_law_524 : decode cL_law 524 = .ok (.ishr, 1) := by decide +kernel
theorem dL_law_525 : decode cL_law 525 = .ok (.bipush 16, 2) := by decide +kernel
theorem dL_law_527 : decode cL_law 527 = .ok (.invokestatic 65, 3) := by decide +kernel
theorem dL_law_530 : decode cL_law 530 = .ok (.iastore, 1) := by decide +kernel
theorem dL_law_531 : decode cL_law 531 = .ok (.aload 7, 2) := by decide +kernel
theorem dL_law_533 : decode cL_law 533 = .ok (.iconst 4, 1) := by decide +kernel
theorem dL_law_534 : decode cL_law 534 = .ok (.iload 14, 2) := by decide +kernel
theorem dL_law_536 : decode cL_law 536 = .ok (.iadd, 1) := by decide +kernel
theorem dL_law_537 : decode cL_law 537 = .ok (.iconst 1, 1) := by decide +kernel
theorem dL_law_538 : decode cL_law 538 = .ok (.iload 13, 2) := by decide +kernel
theorem dL_law_540 : decode cL_law 540 = .ok (.bipush 6, 2) := by decide +kernel
theorem dL_law_542 : decode cL_law 542 = .ok (.ishr, 1) := by decide +kernel
theorem dL_law_543 : decode cL_law 543 = .ok (.bipush 60, 2) := by decide +kernel
theorem dL_law_545 : decode cL_law 545 = .ok (.invokestatic 65, 3) := by decide +kernel
theorem dL_law_548 : decode cL_law 548 = .ok (.iadd, 1) := by decide +kernel
theorem dL_law_549 : decode cL_law 549 = .ok (.iastore, 1) := by decide +kernel
theorem dL_law_550 : decode cL_law 550 = .ok (.aload_n 1, 1) := by decide +kernel
theorem dL_law_551 : decode cL_law 551 = .ok (.iload 14, 2) := by decide +kernel
theorem dL_law_553 : decode cL_law 553 = .ok (.aload 7, 2) := by decide +kernel
theorem dL_law_555 : decode cL_law 555 = .ok (.iload 14, 2) := by decide +kernel
theorem dL_law_557 : decode cL_law 557 = .ok (.iaload, 1) := by decide +kernel
theorem dL_law_558 : decode cL_law 558 = .ok (.aload 7, 2) := by decide +kernel
theorem dL_law_560 : decode cL_law 560 = .ok (.iconst 4, 1) := by decide +kernel
theorem dL_law_561 : decode cL_law 561 = .ok (.iload 14, 2) := by decide +kernel
theorem dL_law_563 : decode cL_law 563 = .ok (.iadd, 1) := by decide +kernel
theorem dL_law_564 : decode cL_law 564 = .ok (.iaload, 1) := by decide +kernel
theorem dL_law_565 : decode cL_law 565 = .ok (.invokevirtual 119, 3) := by decide +kernel
theorem dL_law_568 : decode cL_law 568 = .ok (.iload 15, 2) := by decide +kernel
theorem dL_law_570 : decode cL_law 570 = .ok (.if_icmp .ne 7, 3) := by decide +kernel
theorem dL_law_573 : decode cL_law 573 = .ok (.iconst 1, 1) := by decide +kernel
theorem dL_law_574 : decode cL_law 574 = .ok (.goto 4, 3) := by decide +kernel
theorem dL_law_577 : decode cL_law 577 = .ok (.iconst 0, 1) := by decide +kernel
theorem dL_law_578 : decode cL_law 578 = .ok (.istore 9, 2) := by decide +kernel
theorem dL_law_580 : decode cL_law 580 = .ok (.goto 191, 3) := by decide +kernel
theorem dL_law_583 : decode cL_law 583 = .ok (.iload 12, 2) := by decide +kernel
theorem dL_law_585 : decode cL_law 585 = .ok (.bipush 25, 2) := by decide +kernel
theorem dL_law_587 : decode cL_law 587 = .ok (.if_icmp .ne 85, 3) := by decide +kernel
theorem dL_law_590 : decode cL_law 590 = .ok (.iload 13, 2) := by decide +kernel
theorem dL_law_592 : decode cL_law 592 = .ok (.bipush 6, 2) := by decide +kernel
theorem dL_law_594 : decode cL_law 594 = .ok (.invokestatic 65, 3) := by decide +kernel
theorem dL_law_597 : decode cL_law 597 = .ok (.istore 14, 2) := by decide +kernel
theorem dL_law_599 : decode cL_law 599 = .ok (.aload 7, 2) := by decide +kernel
theorem dL_law_601 : decode cL_law 601 = .ok (.bipush 8, 2) := by decide +kernel
theorem dL_law_603 : decode cL_law 603 = .ok (.iload 14, 2) := by decide +kernel
theorem dL_law_605 : decode cL_law 605 = .ok (.iadd, 1) := by decide +kernel
theorem dL_law_606 : decode cL_law 606 = .ok (.iaload, 1) := by decide +kernel
theorem dL_law_607 : decode cL_law 607 = .ok (.iconst 1, 1) := by decide +kernel
theorem dL_law_608 : decode cL_law 608 = .ok (.if_icmp .ne 7, 3) := by decide +kernel
theorem dL_law_611 : decode cL_law 611 = .ok (.iconst 1, 1) := by decide +kernel
theorem dL_law_612 : decode cL_law 612 = .ok (.goto 4, 3) := by decide +kernel
theorem dL_law_615 : decode cL_law 615 = .ok (.iconst 0, 1) := by decide +kernel
theorem dL_law_616 : decode cL_law 616 = .ok (.istore 15, 2) := by decide +kernel
theorem dL_law_618 : decode cL_law 618 = .ok (.aload 7, 2) := by decide +kernel
theorem dL_law_620 : decode cL_law 620 = .ok (.bipush 8, 2) := by decide +kernel
theorem dL_law_622 : decode cL_law 622 = .ok (.iload 14, 2) := by decide +kernel
theorem dL_law_624 : decode cL_law 624 = .ok (.iadd, 1) := by decide +kernel
theorem dL_law_625 : decode cL_law 625 = .ok (.iload 13, 2) := by decide +kernel
theorem dL_law_627 : decode cL_law 627 = .ok (.iconst 3, 1) := by decide +kernel
theorem dL_law_628 : decode cL_law 628 = .ok (.ishr, 1) := by decide +kernel
theorem dL_law_629 : decode cL_law 629 = .ok (.iconst 2, 1) := by decide +kernel
theorem dL_law_630 : decode cL_law 630 = .ok (.invokestatic 65, 3) := by decide +kernel
theorem dL_law_633 : decode cL_law 633 = .ok (.iastore, 1) := by decide +kernel
theorem dL_law_634 : decode cL_law 634 = .ok (.aload_n 1, 1) := by decide +kernel
theorem dL_law_635 : decode cL_law 635 = .ok (.iload 14, 2) := by decide +kernel
theorem dL_law_637 : decode cL_law 637 = .ok (.aload 7, 2) := by decide +kernel
theorem dL_law_639 : decode cL_law 639 = .ok (.bipush 8, 2) := by decide +kernel
theorem dL_law_641 : decode cL_law 641 = .ok (.iload 14, 2) := by decide +kernel
theorem dL_law_643 : decode cL_law 643 = .ok (.iadd, 1) := by decide +kernel
theorem dL_law_644 : decode cL_law 644 = .ok (.iaload, 1) := by decide +kernel
theorem dL_law_645 : decode cL_law 645 = .ok (.iconst 1, 1) := by decide +kernel
theorem dL_law_646 : decode cL_law 646 = .ok (.if_icmp .ne 7, 3) := by decide +kernel
theorem dL_law_649 : decode cL_law 649 = .ok (.iconst 1, 1) := by decide +kernel
theorem dL_law_650 : decode cL_law 650 = .ok (.goto 4, 3) := by decide +kernel
theorem dL_law_653 : decode cL_law 653 = .ok (.iconst 0, 1) := by decide +kernel
theorem dL_law_654 : decode cL_law 654 = .ok (.invokevirtual 132, 3) := by decide +kernel
theorem dL_law_657 : decode cL_law 657 = .ok (.iload 15, 2) := by decide +kernel
theorem dL_law_659 : decode cL_law 659 = .ok (.if_icmp .ne 7, 3) := by decide +kernel
theorem dL_law_662 : decode cL_law 662 = .ok (.iconst 1, 1) := by decide +kernel
theorem dL_law_663 : decode cL_law 663 = .ok (.goto 4, 3) := by decide +kernel
theorem dL_law_666 : decode cL_law 666 = .ok (.iconst 0, 1) := by decide +kernel
theorem dL_law_667 : decode cL_law 667 = .ok (.istore 9, 2) := by decide +kernel
theorem dL_law_669 : decode cL_law 669 = .ok (.goto 102, 3) := by decide +kernel
theorem dL_law_672 : decode cL_law 672 = .ok (.iconst 1, 1) := by decide +kernel
theorem dL_law_673 : decode cL_law 673 = .ok (.iload 13, 2) := by decide +kernel
theorem dL_law_675 : decode cL_law 675 = .ok (.iload 13, 2) := by decide +kernel
theorem dL_law_677 : decode cL_law 677 = .ok (.iconst 3, 1) := by decide +kernel
theorem dL_law_678 : decode cL_law 678 = .ok (.ishr, 1) := by decide +kernel
theorem dL_law_679 : decode cL_law 679 = .ok (.bipush 8, 2) := by decide +kernel
theorem dL_law_681 : decode cL_law 681 = .ok (.invokestatic 65, 3) := by decide +kernel
theorem dL_law_684 : decode cL_law 684 = .ok (.ifCond .ne 8, 3) := by decide +kernel
theorem dL_law_687 : decode cL_law 687 = .ok (.bipush 20, 2) := by decide +kernel
theorem dL_law_689 : decode cL_law 689 = .ok (.goto 4, 3) := by decide +kernel
theorem dL_law_692 : decode cL_law 692 = .ok (.iconst 4, 1) := by decide +kernel
theorem dL_law_693 : decode cL_law 693 = .ok (.invokestatic 65, 3) := by decide +kernel
theorem dL_law_696 : decode cL_law 696 = .ok (.iadd, 1) := by decide +kernel
theorem dL_law_697 : decode cL_law 697 = .ok (.istore 14, 2) := by decide +kernel
theorem dL_law_699 : decode cL_law 699 = .ok (.iconst 0, 1) := by decide +kernel
theorem dL_law_700 : decode cL_law 700 = .ok (.istore 15, 2) := by decide +kernel
theorem dL_law_702 : decode cL_law 702 = .ok (.iconst 0, 1) := by decide +kernel
theorem dL_law_703 : decode cL_law 703 = .ok (.istore 16, 2) := by decide +kernel
theorem dL_law_705 : decode cL_law 705 = .ok (.iload 16, 2) := by decide +kernel
theorem dL_law_707 : decode cL_law 707 = .ok (.iload 14, 2) := by decide +kernel
theorem dL_law_709 : decode cL_law 709 = .ok (.if_icmp .ge 21, 3) := by decide +kernel
theorem dL_law_712 : decode cL_law 712 = .ok (.iload 15, 2) := by decide +kernel
theorem dL_law_714 : decode cL_law 714 = .ok (.aload_n 2, 1) := by decide +kernel
theorem dL_law_715 : decode cL_law 715 = .ok (.aload_n 3, 1) := by decide +kernel
theorem dL_law_716 : decode cL_law 716 = .ok (.aload 8, 2) := by decide +kernel
theorem dL_law_718 : decode cL_law 718 = .ok (.invokestatic 136, 3) := by decide +kernel
theorem dL_law_721 : decode cL_law 721 = .ok (.iadd, 1) := by decide +kernel
theorem dL_law_722 : decode cL_law 722 = .ok (.istore 15, 2) := by decide +kernel
theorem dL_law_724 : decode cL_law 724 = .ok (.iinc 16 1, 3) := by decide +kernel
theorem dL_law_727 : decode cL_law 727 = .ok (.goto (-22), 3) := by decide +kernel
theorem dL_law_730 : decode cL_law 730 = .ok (.aload 8, 2) := by decide +kernel
theorem dL_law_732 : decode cL_law 732 = .ok (.iconst 2, 1) := by decide +kernel
theorem dL_law_733 : decode cL_law 733 = .ok (.iaload, 1) := by decide +kernel
theorem dL_law_734 : decode cL_law 734 = .ok (.sipush 900, 3) := by decide +kernel
theorem dL_law_737 : decode cL_law 737 = .ok (.if_icmp .gt 14, 3) := by decide +kernel
theorem dL_law_740 : decode cL_law 740 = .ok (.aload_n 1, 1) := by decide +kernel
theorem dL_law_741 : decode cL_law 741 = .ok (.iload 14, 2) := by decide +kernel
theorem dL_law_743 : decode cL_law 743 = .ok (.invokevirtual 139, 3) := by decide +kernel
theorem dL_law_746 : decode cL_law 746 = .ok (.iload 15, 2) := by decide +kernel
theorem dL_law_748 : decode cL_law 748 = .ok (.if_icmp .ne 7, 3) := by decide +kernel
theorem dL_law_751 : decode cL_law 751 = .ok (.iconst 1, 1) := by decide +kernel
theorem dL_law_752 : decode cL_law 752 = .ok (.goto 4, 3) := by decide +kernel
theorem dL_law_755 : decode cL_law 755 = .ok (.iconst 0, 1) := by decide +kernel
theorem dL_law_756 : decode cL_law 756 = .ok (.istore 9, 2) := by decide +kernel
theorem dL_law_758 : decode cL_law 758 = .ok (.aload 8, 2) := by decide +kernel
theorem dL_law_760 : decode cL_law 760 = .ok (.iconst 2, 1) := by decide +kernel
theorem dL_law_761 : decode cL_law 761 = .ok (.iaload, 1) := by decide +kernel
theorem dL_law_762 : decode cL_law 762 = .ok (.sipush 900, 3) := by decide +kernel
theorem dL_law_765 : decode cL_law 765 = .ok (.if_icmp .le 6, 3) := by decide +kernel
theorem dL_law_768 : decode cL_law 768 = .ok (.iload 9, 2) := by decide +kernel
theorem dL_law_770 : decode cL_law 770 = .ok (.ireturn, 1) := by decide +kernel
theorem dL_law_771 : decode cL_law 771 = .ok (.iload 9, 2) := by decide +kernel
theorem dL_law_773 : decode cL_law 773 = .ok (.ifCond .eq 28, 3) := by decide +kernel
theorem dL_law_776 : decode cL_law 776 = .ok (.aload_n 1, 1) := by decide +kernel
theorem dL_law_777 : decode cL_law 777 = .ok (.iload 13, 2) := by decide +kernel
theorem dL_law_779 : decode cL_law 779 = .ok (.iconst 1, 1) := by decide +kernel
theorem dL_law_780 : decode cL_law 780 = .ok (.ishr, 1) := by decide +kernel
theorem dL_law_781 : decode cL_law 781 = .ok (.aload_n 2, 1) := by decide +kernel
theorem dL_law_782 : decode cL_law 782 = .ok (.aload_n 3, 1) := by decide +kernel
theorem dL_law_783 : decode cL_law 783 = .ok (.aload 4, 2) := by decide +kernel
theorem dL_law_785 : decode cL_law 785 = .ok (.aload 5, 2) := by decide +kernel
theorem dL_law_787 : decode cL_law 787 = .ok (.aload 6, 2) := by decide +kernel
theorem dL_law_789 : decode cL_law 789 = .ok (.aload 8, 2) := by decide +kernel
theorem dL_law_791 : decode cL_law 791 = .ok (.invokestatic 142, 3) := by decide +kernel
theorem dL_law_794 : decode cL_law 794 = .ok (.ifCond .eq 7, 3) := by decide +kernel
theorem dL_law_797 : decode cL_law 797 = .ok (.iconst 1, 1) := by decide +kernel
theorem dL_law_798 : decode cL_law 798 = .ok (.goto 4, 3) := by decide +kernel
theorem dL_law_801 : decode cL_law 801 = .ok (.iconst 0, 1) := by decide +kernel
theorem dL_law_802 : decode cL_law 802 = .ok (.istore 9, 2) := by decide +kernel
theorem dL_law_804 : decode cL_law 804 = .ok (.iinc 10 1, 3) := by decide +kernel
theorem dL_law_807 : decode cL_law 807 = .ok (.goto (-658), 3) := by decide +kernel
theorem dL_law_810 : decode cL_law 810 = .ok (.iload 9, 2) := by decide +kernel
theorem dL_law_812 : decode cL_law 812 = .ok (.ireturn, 1) := by decide +kernel
end
section
section WBase
abbrev wI : Type := Nat → Nat → Nat → Int32
abbrev wP : Type := Nat → Nat → Nat → Option Nat
abbrev wO : Type := Nat → Int64
/-- where things lie: numbers and slots of the kinds, the rows' kinds, the addresses -/
abbrev wG : Type := va_G × (Nat → ClassId) × (Nat → Nat → Nat)
abbrev wZ : Type := Nat × Nat
def wTy (g : wG) : List (ClassId × FieldType) := [(g.2.1 0, .int), (g.2.1 1, .boolean), (g.2.1 2, .object RX2), (g.2.1 3, .object RX0), (g.2.1 4, .object RX1)]
def wML (i : Nat) : Nat := [64, 64, 64, 64, 64, 14, 3].getD i 0
def wAl (z : wZ) (k i : Nat) : Prop := match k with
  | 0 => i = 0
  | 1 => i < 4
  | 2 => i < z.1
  | 3 => i < z.2
  | 4 => i = 0
  | 5 => i = 0
  | 6 => i = 0
  | 7 => i = 0
  | 8 => i < 4
  | 9 => i < 4
  | 10 => i < 4
  | 11 => i < z.2
  | 13 => 0 < wML i
  | _ => False
def wE (g : wG) (f : Nat → Int32) (q : Nat → Option Nat) (O : wO) (k i : Nat) : va_E := match k with
  | 0 => .inr (3, [.ref (g.2.2 4 0), .ref (g.2.2 5 0), .ref (g.2.2 6 0), .ref (g.2.2 7 0), .int (f 4), .int (f 5), .int (f 6)])
  | 1 => .inr (1, [.int (f 0), .int (f 1), .ref (g.2.2 8 i), .ref (g.2.2 9 i), .ref (g.2.2 10 i)])
  | 2 => .inr (2, [.int (f 0), .int (f 1), .int (f 2), .int (f 3), .int (f 4), .int (f 5), .int (f 6), .int (f 7)])
  | 3 => .inr (0, [.int (f 0), va_rf ((q 1).map (g.2.2 2)), .int (f 2), .ref (g.2.2 11 i), .int (f 4), .int (f 5), .int (f 6), .int (f 7), .int (f 8), .int (f 9)])
  | 4 => .inl (g.2.1 4, 4, .inr (.inr (.inr (.inr (fun j => (q j).map (g.2.2 1))))))
  | 5 => .inl (g.2.1 1, 6, .inl f)
  | 6 => .inl (g.2.1 2, 12, .inr (.inr (.inr (.inr (fun j => (q j).map (g.2.2 2))))))
  | 7 => .inl (g.2.1 3, 24, .inr (.inr (.inr (.inr (fun j => (q j).map (g.2.2 3))))))
  | 8 => .inl (g.2.1 0, 16, .inl f)
  | 9 => .inl (g.2.1 2, 16, .inr (.inr (.inr (.inr (fun j => (q j).map (g.2.2 2))))))
  | 10 => .inl (g.2.1 0, 16, .inl f)
  | 11 => .inl (g.2.1 0, 4, .inl f)
  | 13 => .inl (g.2.1 0, wML i, .inl f)
  | _ => .inl (g.2.1 5, 1, .inr (.inl O))
def wHd (g : wG) (z : wZ) (I : wI) (P : wP) (O : wO) (H : Heap) : Prop := (∀ k i, wAl z k i → va_at g.1 vwCl (g.2.2 k i, wE g (I k i) (P k i) O k i) H) ∧ ∀ k i k' i', wAl z k i → wAl z k' i' → g.2.2 k i = g.2.2 k' i' → k = k' ∧ i = i'
def wA (g : wG) (z : wZ) (q : Nat) : Prop := ∃ k i, wAl z k i ∧ q = g.2.2 k i
def upI (I : wI) (a b j : Nat) (v : Int32) : wI := fun k i => if k = a ∧ i = b then upd (I k i) j v else I k i
def upP (P : wP) (a b j : Nat) (v : Option Nat) : wP := fun k i => if k = a ∧ i = b then va_up (P k i) j v else P k i
theorem upI_at (I : wI) (a b j : Nat) (v : Int32) (k i c : Nat) : upI I a b j v k i c = if k = a ∧ i = b ∧ c = j then v else I k i c := by
  unfold upI upd
  by_cases h1 : k = a ∧ i = b <;> by_cases h2 : c = j <;> simp [h1, h2] <;> (try (intro h3 h4; exact absurd ⟨h3, h4⟩ h1))
theorem upP_at (P : wP) (a b j : Nat) (v : Option Nat) (k i c : Nat) : upP P a b j v k i c = if k = a ∧ i = b ∧ c = j then v else P k i c := by
  unfold upP va_up
  by_cases h1 : k = a ∧ i = b <;> by_cases h2 : c = j <;> simp [h1, h2] <;> (try (intro h3 h4; exact absurd ⟨h3, h4⟩ h1))
theorem upI_row (I : wI) (a b j : Nat) (v : Int32) : upI I a b j v a b = upd (I a b) j v := by unfold upI; simp
theorem upP_row (P : wP) (a b j : Nat) (v : Option Nat) : upP P a b j v a b = va_up (P a b) j v := by unfold upP; simp
theorem upI_off (I : wI) {a b j k i : Nat} (v : Int32) (h : ¬ (k = a ∧ i = b)) : upI I a b j v k i = I k i := by unfold upI; simp [h]
theorem upP_off (P : wP) {a b j k i : Nat} (v : Option Nat) (h : ¬ (k = a ∧ i = b)) : upP P a b j v k i = P k i := by unfold upP; simp [h]
/-- what is written in one place leaves the others -/
theorem wHd.put {g : wG} {z : wZ} {I I' : wI} {P P' : wP} {O O' : wO} {H H1 : Heap} {a b : Nat} (h : wHd g z I P O H) (hab : wAl z a b) (hI : ∀ k i, ¬ (k = a ∧ i = b) → I' k i = I k i) (hP : ∀ k i, ¬ (k = a ∧ i = b) → P' k i = P k i) (hO : ∀ k i, wAl z k i → ¬ (k = a ∧ i = b) → wE g (I k i) (P k i) O' k i = wE g (I k i) (P k i) O k i)
    (he : va_at g.1 vwCl (g.2.2 a b, wE g (I' a b) (P' a b) O' a b) H1) (oq : ∀ q : Nat, q ≠ g.2.2 a b → H1[q]? = H[q]?) : wHd g z I' P' O' H1 := by
  refine ⟨fun k i hk => ?_, h.2⟩
  by_cases hq : k = a ∧ i = b
  · obtain ⟨rfl, rfl⟩ := hq
    exact he
  · rw [hI k i hq, hP k i hq, hO k i hk hq]
    exact (h.1 k i hk).kept (oq _ (fun e => hq (h.2 k i a b hk hab e)))
theorem wE_O {g : wG} {z : wZ} {f : Nat → Int32} {q : Nat → Option Nat} {O O' : wO} {k i : Nat} (hk : wAl z k i) (h : k ≠ 14) : wE g f q O' k i = wE g f q O k i := by
  match k, hk, h with
  | 0, _, _ | 1, _, _ | 2, _, _ | 3, _, _ | 4, _, _ | 5, _, _ | 6, _, _ | 7, _, _ | 8, _, _ | 9, _, _ | 10, _, _ | 11, _, _ | 13, _, _ => rfl
  | 12, hk, _ => exact hk.elim
  | 14, hk, _ => exact hk.elim
  | _ + 15, hk, _ => exact hk.elim
abbrev wK : Type := Program × Launch × Env × Room × State × MethodId × Array Value × List Frame × Method × Code × (State → Prop) × wG × (Nat → Prop)
def lk : List (Nat × Value) → Nat → Option Value
  | [], _ => none
  | q :: t, i => bif Nat.beq q.1 i then some q.2 else lk t i
theorem lk_mem : ∀ {L : List (Nat × Value)} {i : Nat} {v : Value}, lk L i = some v → (i, v) ∈ L
  | [], _, _, h => by cases h
  | (j, u) :: t, i, v, h => by
    unfold lk at h
    cases hb : Nat.beq j i with
    | true =>
      rw [hb] at h
      have e : j = i := Nat.eq_of_beq_eq_true hb
      cases h
      subst e
      exact List.mem_cons_self
    | false =>
      rw [hb] at h
      exact List.mem_cons_of_mem _ (lk_mem h)
def st1 : List (Nat × Value) → Nat → Value → List (Nat × Value)
  | [], i, v => [(i, v)]
  | q :: t, i, v => bif Nat.beq q.1 i then (i, v) :: t.filter (fun q => !(Nat.beq q.1 i)) else q :: st1 t i v
theorem st1_sub : ∀ {L : List (Nat × Value)} {i : Nat} {v : Value} {q : Nat × Value}, q ∈ st1 L i v → q = (i, v) ∨ (q ∈ L ∧ q.1 ≠ i)
  | [], i, v, q, h => Or.inl (List.mem_singleton.mp h)
  | p :: t, i, v, q, h => by
    unfold st1 at h
    cases hb : Nat.beq p.1 i with
    | true =>
      rw [hb] at h
      rcases List.mem_cons.mp (show q ∈ (i, v) :: t.filter (fun q => !(Nat.beq q.1 i)) from h) with h1 | h1
      · exact Or.inl h1
      · obtain ⟨h2, h3⟩ := List.mem_filter.mp h1
        exact Or.inr ⟨List.mem_cons_of_mem _ h2, fun e => by rw [e, Nat.beq_refl] at h3; cases h3⟩
    | false =>
      rw [hb] at h
      rcases List.mem_cons.mp (show q ∈ p :: st1 t i v from h) with h1 | h1
      · refine Or.inr ⟨h1 ▸ List.mem_cons_self, fun e => ?_⟩
        rw [h1] at e
        rw [e, Nat.beq_refl] at hb
        cases hb
      · rcases st1_sub h1 with h2 | ⟨h2, h3⟩
        · exact Or.inl h2
        · exact Or.inr ⟨List.mem_cons_of_mem _ h2, h3⟩
theorem st1_has {ls : Array Slot} {n : Nat} {L : List (Nat × Value)} {i : Nat} {v : Value} (h : lv_has ls n ((i, v) :: L.filter (fun q => !(q.1 == i) && !(q.1 + 1 == i && q.2.category == 2)))) (c1 : ∀ q ∈ L, q.2.category = 1) : lv_has ls n (st1 L i v) := by
  refine ⟨h.1, h.2.1, fun q hq => ?_⟩
  rcases st1_sub hq with e | ⟨hm, hne⟩
  · rw [e]; exact h.2.2 _ List.mem_cons_self
  · exact h.2.2 q (List.mem_cons_of_mem _ (List.mem_filter.mpr ⟨hm, by simp [hne, c1 q hm]⟩))
theorem st1_cat {L : List (Nat × Value)} {i : Nat} {v : Value} (hv : v.category = 1) (c1 : ∀ q ∈ L, q.2.category = 1) : ∀ q ∈ st1 L i v, q.2.category = 1 := fun q hq => by
  rcases st1_sub hq with e | ⟨hm, _⟩
  · rw [e]; exact hv
  · exact c1 q hm
def G : wK → wZ → wI → wP → wO → Nat → Nat → Nat → List (Nat × Value) → List Value → Prop
  | (p, l, e, R, s, m, args, below, meth, cd, Q, g, A), z, I, P, O, c, n, pc, L, S => ∀ (H : Heap) (locs : List Loc) (ls : Array Slot), wHd g z I P O H → va_S A s.heap H locs → lv_has ls cd.maxLocals L → (∀ q ∈ L, q.2.category = 1) → W p l e R s m args below meth cd H locs c n Q (F0 m pc ls S)
def Cx : wK → ByteArray → String → Nat → Option FieldType → Room → wZ → Prop
  | (p, l, e, R, s, m, args, below, meth, cd, Q, g, A), cc, own, nL, ret, rm, z => p.tables.exec = Jvm.exec ∧ cd.code = cc ∧ meth.sig.returnType = ret ∧ cd.maxLocals = nL ∧ s.vm.findClass own = some m.cls ∧ (∀ w ∈ wAll, w.before args s = true) ∧ meth.locks = false ∧ va_K g.1 vwCl (wTy g) s ∧ R = rm ∧ ∀ k i, wAl z k i → A (g.2.2 k i)
abbrev Kg (K : wK) : wG := K.2.2.2.2.2.2.2.2.2.2.2.1
abbrev Kl (K : wK) : Launch := K.2.1
variable {K : wK} {cc : ByteArray} {own : String} {nL : Nat} {ret : Option FieldType} {rm : Room} {z : wZ} {I : wI} {P : wP} {O : wO} {c n pc pc' : Nat} {L : List (Nat × Value)} {S : List Value}

theorem g_iconst (C : Cx K cc own nL ret rm z) {k : Int} {v : Int32} (d : decode cc pc = .ok (.iconst k, 1)) (hv : Int32.ofInt k = v) (hp : pc + 1 = pc') (kk : G K z I P O c n pc' L (.int v :: S)) : G K z I P O c n pc L (S) := by
  subst hp
  obtain ⟨p, l, e, R, s, m, args, below, meth, cd, Q, g, A⟩ := K
  intro H locs ls hH hS hl hc
  exact lv_iconst C.1 C.2.1 d hv (kk H locs ls hH hS hl hc)

theorem g_bipush (C : Cx K cc own nL ret rm z) {k : Int} {v : Int32} (d : decode cc pc = .ok (.bipush k, 2)) (hv : (Int8.ofInt k).toInt32 = v) (hp : pc + 2 = pc') (kk : G K z I P O c n pc' L (.int v :: S)) : G K z I P O c n pc L (S) := by
  subst hp
  obtain ⟨p, l, e, R, s, m, args, below, meth, cd, Q, g, A⟩ := K
  intro H locs ls hH hS hl hc
  exact lv_bipush C.1 C.2.1 d hv (kk H locs ls hH hS hl hc)

theorem g_sipush (C : Cx K cc own nL ret rm z) {k : Int} {v : Int32} (d : decode cc pc = .ok (.sipush k, 3)) (hv : (Int16.ofInt k).toInt32 = v) (hp : pc + 3 = pc') (kk : G K z I P O c n pc' L (.int v :: S)) : G K z I P O c n pc L (S) := by
  subst hp
  obtain ⟨p, l, e, R, s, m, args, below, meth, cd, Q, g, A⟩ := K
  intro H locs ls hH hS hl hc
  exact lv_sipush C.1 C.2.1 d hv (kk H locs ls hH hS hl hc)

theorem g_null (C : Cx K cc own nL ret rm z) (d : decode cc pc = .ok (.aconst_null, 1)) (hp : pc + 1 = pc') (kk : G K z I P O c n pc' L (.null :: S)) : G K z I P O c n pc L (S) := by
  subst hp
  obtain ⟨p, l, e, R, s, m, args, below, meth, cd, Q, g, A⟩ := K
  intro H locs ls hH hS hl hc
  exact lv_null C.1 C.2.1 d (kk H locs ls hH hS hl hc)

theorem g_lconst (C : Cx K cc own nL ret rm z) {k : Fin 2} {v : Int64} (d : decode cc pc = .ok (.lconst k, 1)) (hv : Int64.ofNat (k : Nat) = v) (hp : pc + 1 = pc') (kk : G K z I P O c n pc' L (.long v :: S)) : G K z I P O c n pc L (S) := by
  subst hp
  obtain ⟨p, l, e, R, s, m, args, below, meth, cd, Q, g, A⟩ := K
  intro H locs ls hH hS hl hc
  exact lv_lconst C.1 C.2.1 d hv (kk H locs ls hH hS hl hc)

theorem g_iload_n (C : Cx K cc own nL ret rm z) {k : Fin 4} {x : Int32} (d : decode cc pc = .ok (.iload_n k, 1)) (hL : lk L k.val = some (.int x)) (hp : pc + 1 = pc') (kk : G K z I P O c n pc' L (.int x :: S)) : G K z I P O c n pc L (S) := by
  subst hp
  obtain ⟨p, l, e, R, s, m, args, below, meth, cd, Q, g, A⟩ := K
  intro H locs ls hH hS hl hc
  exact lv_iload_n C.1 C.2.1 d rfl (hl.2.2 _ (lk_mem hL)) (kk H locs ls hH hS hl hc)

theorem g_iload (C : Cx K cc own nL ret rm z) {i : Nat} {x : Int32} (d : decode cc pc = .ok (.iload i, 2)) (hL : lk L i = some (.int x)) (hp : pc + 2 = pc') (kk : G K z I P O c n pc' L (.int x :: S)) : G K z I P O c n pc L (S) := by
  subst hp
  obtain ⟨p, l, e, R, s, m, args, below, meth, cd, Q, g, A⟩ := K
  intro H locs ls hH hS hl hc
  exact lv_iload C.1 C.2.1 d (hl.2.2 _ (lk_mem hL)) (kk H locs ls hH hS hl hc)

theorem g_aload_n (C : Cx K cc own nL ret rm z) {k : Fin 4} {x : Nat} (d : decode cc pc = .ok (.aload_n k, 1)) (hL : lk L k.val = some (.ref x)) (hp : pc + 1 = pc') (kk : G K z I P O c n pc' L (.ref x :: S)) : G K z I P O c n pc L (S) := by
  subst hp
  obtain ⟨p, l, e, R, s, m, args, below, meth, cd, Q, g, A⟩ := K
  intro H locs ls hH hS hl hc
  exact lv_aload_n C.1 C.2.1 d rfl (hl.2.2 _ (lk_mem hL)) (kk H locs ls hH hS hl hc)

theorem g_aload (C : Cx K cc own nL ret rm z) {i x : Nat} (d : decode cc pc = .ok (.aload i, 2)) (hL : lk L i = some (.ref x)) (hp : pc + 2 = pc') (kk : G K z I P O c n pc' L (.ref x :: S)) : G K z I P O c n pc L (S) := by
  subst hp
  obtain ⟨p, l, e, R, s, m, args, below, meth, cd, Q, g, A⟩ := K
  intro H locs ls hH hS hl hc
  exact lv_aload C.1 C.2.1 d (hl.2.2 _ (lk_mem hL)) (kk H locs ls hH hS hl hc)

theorem g_aload_nN (C : Cx K cc own nL ret rm z) {k : Fin 4} (d : decode cc pc = .ok (.aload_n k, 1)) (hL : lk L k.val = some .null) (hp : pc + 1 = pc') (kk : G K z I P O c n pc' L (.null :: S)) : G K z I P O c n pc L (S) := by
  subst hp
  obtain ⟨p, l, e, R, s, m, args, below, meth, cd, Q, g, A⟩ := K
  intro H locs ls hH hS hl hc
  exact lv_aload_nN C.1 C.2.1 d rfl (hl.2.2 _ (lk_mem hL)) (kk H locs ls hH hS hl hc)

theorem g_aloadN (C : Cx K cc own nL ret rm z) {i : Nat} (d : decode cc pc = .ok (.aload i, 2)) (hL : lk L i = some .null) (hp : pc + 2 = pc') (kk : G K z I P O c n pc' L (.null :: S)) : G K z I P O c n pc L (S) := by
  subst hp
  obtain ⟨p, l, e, R, s, m, args, below, meth, cd, Q, g, A⟩ := K
  intro H locs ls hH hS hl hc
  exact lv_aloadN C.1 C.2.1 d (hl.2.2 _ (lk_mem hL)) (kk H locs ls hH hS hl hc)

theorem g_istore_n (C : Cx K cc own nL ret rm z) {k : Fin 4} {x : Int32} (d : decode cc pc = .ok (.istore_n k, 1)) (hn : Nat.blt k.val nL = true) (hp : pc + 1 = pc') (kk : G K z I P O c n pc' (st1 L k.val (.int x)) S) : G K z I P O c n pc L (.int x :: S) := by
  subst hp
  obtain ⟨p, l, e, R, s, m, args, below, meth, cd, Q, g, A⟩ := K
  intro H locs ls hH hS hl hc
  exact lv_istore_n C.1 C.2.1 d rfl hl (by rw [C.2.2.2.1]; exact Nat.le_of_ble_eq_true hn) rfl (fun ls' hl' => kk H locs ls' hH hS (st1_has hl' hc) (st1_cat rfl hc))

theorem g_istore (C : Cx K cc own nL ret rm z) {i : Nat} {x : Int32} (d : decode cc pc = .ok (.istore i, 2)) (hn : Nat.blt i nL = true) (hp : pc + 2 = pc') (kk : G K z I P O c n pc' (st1 L i (.int x)) S) : G K z I P O c n pc L (.int x :: S) := by
  subst hp
  obtain ⟨p, l, e, R, s, m, args, below, meth, cd, Q, g, A⟩ := K
  intro H locs ls hH hS hl hc
  exact lv_istore C.1 C.2.1 d hl (by rw [C.2.2.2.1]; exact Nat.le_of_ble_eq_true hn) rfl (fun ls' hl' => kk H locs ls' hH hS (st1_has hl' hc) (st1_cat rfl hc))

theorem g_astore_n (C : Cx K cc own nL ret rm z) {k : Fin 4} {x : Nat} (d : decode cc pc = .ok (.astore_n k, 1)) (hn : Nat.blt k.val nL = true) (hp : pc + 1 = pc') (kk : G K z I P O c n pc' (st1 L k.val (.ref x)) S) : G K z I P O c n pc L (.ref x :: S) := by
  subst hp
  obtain ⟨p, l, e, R, s, m, args, below, meth, cd, Q, g, A⟩ := K
  intro H locs ls hH hS hl hc
  exact lv_astore_n C.1 C.2.1 d rfl hl (by rw [C.2.2.2.1]; exact Nat.le_of_ble_eq_true hn) rfl (fun ls' hl' => kk H locs ls' hH hS (st1_has hl' hc) (st1_cat rfl hc))

theorem g_astore (C : Cx K cc own nL ret rm z) {i x : Nat} (d : decode cc pc = .ok (.astore i, 2)) (hn : Nat.blt i nL = true) (hp : pc + 2 = pc') (kk : G K z I P O c n pc' (st1 L i (.ref x)) S) : G K z I P O c n pc L (.ref x :: S) := by
  subst hp
  obtain ⟨p, l, e, R, s, m, args, below, meth, cd, Q, g, A⟩ := K
  intro H locs ls hH hS hl hc
  exact lv_astore C.1 C.2.1 d hl (by rw [C.2.2.2.1]; exact Nat.le_of_ble_eq_true hn) rfl (fun ls' hl' => kk H locs ls' hH hS (st1_has hl' hc) (st1_cat rfl hc))

theorem g_astore_nN (C : Cx K cc own nL ret rm z) {k : Fin 4} (d : decode cc pc = .ok (.astore_n k, 1)) (hn : Nat.blt k.val nL = true) (hp : pc + 1 = pc') (kk : G K z I P O c n pc' (st1 L k.val (.null)) S) : G K z I P O c n pc L (.null :: S) := by
  subst hp
  obtain ⟨p, l, e, R, s, m, args, below, meth, cd, Q, g, A⟩ := K
  intro H locs ls hH hS hl hc
  exact lv_astore_nN C.1 C.2.1 d rfl hl (by rw [C.2.2.2.1]; exact Nat.le_of_ble_eq_true hn) rfl (fun ls' hl' => kk H locs ls' hH hS (st1_has hl' hc) (st1_cat rfl hc))

theorem g_astoreN (C : Cx K cc own nL ret rm z) {i : Nat} (d : decode cc pc = .ok (.astore i, 2)) (hn : Nat.blt i nL = true) (hp : pc + 2 = pc') (kk : G K z I P O c n pc' (st1 L i (.null)) S) : G K z I P O c n pc L (.null :: S) := by
  subst hp
  obtain ⟨p, l, e, R, s, m, args, below, meth, cd, Q, g, A⟩ := K
  intro H locs ls hH hS hl hc
  exact lv_astoreN C.1 C.2.1 d hl (by rw [C.2.2.2.1]; exact Nat.le_of_ble_eq_true hn) rfl (fun ls' hl' => kk H locs ls' hH hS (st1_has hl' hc) (st1_cat rfl hc))

theorem g_iinc (C : Cx K cc own nL ret rm z) {i : Nat} {k : Int} {x v : Int32} (d : decode cc pc = .ok (.iinc i k, 3)) (hL : lk L i = some (.int x)) (hv : x + Int32.ofInt k = v) (hn : Nat.blt i nL = true) (hp : pc + 3 = pc') (kk : G K z I P O c n pc' (st1 L i (.int v)) S) : G K z I P O c n pc L S := by
  subst hp
  obtain ⟨p, l, e, R, s, m, args, below, meth, cd, Q, g, A⟩ := K
  intro H locs ls hH hS hl hc
  obtain ⟨j, hj⟩ := List.getElem?_of_mem (lk_mem hL)
  exact lv_iinc C.1 C.2.1 d hl hj hv (by rw [C.2.2.2.1]; exact Nat.le_of_ble_eq_true hn) rfl (fun ls' hl' => kk H locs ls' hH hS (st1_has hl' hc) (st1_cat rfl hc))

theorem g_iadd (C : Cx K cc own nL ret rm z) {x y : Int32} (d : decode cc pc = .ok (.iadd, 1)) (hp : pc + 1 = pc') (kk : G K z I P O c n pc' L (.int (x + y) :: S)) : G K z I P O c n pc L (.int y :: .int x :: S) := by
  subst hp
  obtain ⟨p, l, e, R, s, m, args, below, meth, cd, Q, g, A⟩ := K
  intro H locs ls hH hS hl hc
  exact lv_iadd C.1 C.2.1 d (kk H locs ls hH hS hl hc)

theorem g_isub (C : Cx K cc own nL ret rm z) {x y : Int32} (d : decode cc pc = .ok (.isub, 1)) (hp : pc + 1 = pc') (kk : G K z I P O c n pc' L (.int (x - y) :: S)) : G K z I P O c n pc L (.int y :: .int x :: S) := by
  subst hp
  obtain ⟨p, l, e, R, s, m, args, below, meth, cd, Q, g, A⟩ := K
  intro H locs ls hH hS hl hc
  exact lv_isub C.1 C.2.1 d (kk H locs ls hH hS hl hc)

theorem g_imul (C : Cx K cc own nL ret rm z) {x y : Int32} (d : decode cc pc = .ok (.imul, 1)) (hp : pc + 1 = pc') (kk : G K z I P O c n pc' L (.int (x * y) :: S)) : G K z I P O c n pc L (.int y :: .int x :: S) := by
  subst hp
  obtain ⟨p, l, e, R, s, m, args, below, meth, cd, Q, g, A⟩ := K
  intro H locs ls hH hS hl hc
  exact lv_imul C.1 C.2.1 d (kk H locs ls hH hS hl hc)

theorem g_iand (C : Cx K cc own nL ret rm z) {x y : Int32} (d : decode cc pc = .ok (.iand, 1)) (hp : pc + 1 = pc') (kk : G K z I P O c n pc' L (.int (x &&& y) :: S)) : G K z I P O c n pc L (.int y :: .int x :: S) := by
  subst hp
  obtain ⟨p, l, e, R, s, m, args, below, meth, cd, Q, g, A⟩ := K
  intro H locs ls hH hS hl hc
  exact lv_iand C.1 C.2.1 d (kk H locs ls hH hS hl hc)

theorem g_ior (C : Cx K cc own nL ret rm z) {x y : Int32} (d : decode cc pc = .ok (.ior, 1)) (hp : pc + 1 = pc') (kk : G K z I P O c n pc' L (.int (x ||| y) :: S)) : G K z I P O c n pc L (.int y :: .int x :: S) := by
  subst hp
  obtain ⟨p, l, e, R, s, m, args, below, meth, cd, Q, g, A⟩ := K
  intro H locs ls hH hS hl hc
  exact lv_ior C.1 C.2.1 d (kk H locs ls hH hS hl hc)

theorem g_ishr (C : Cx K cc own nL ret rm z) {x y : Int32} (d : decode cc pc = .ok (.ishr, 1)) (hp : pc + 1 = pc') (kk : G K z I P O c n pc' L (.int (x >>> (y &&& 31)) :: S)) : G K z I P O c n pc L (.int y :: .int x :: S) := by
  subst hp
  obtain ⟨p, l, e, R, s, m, args, below, meth, cd, Q, g, A⟩ := K
  intro H locs ls hH hS hl hc
  exact lv_ishr C.1 C.2.1 d (kk H locs ls hH hS hl hc)

theorem g_idiv (C : Cx K cc own nL ret rm z) {x y : Int32} (d : decode cc pc = .ok (.idiv, 1)) (hy : ¬ y = 0) (hp : pc + 1 = pc') (kk : G K z I P O c n pc' L (.int (x / y) :: S)) : G K z I P O c n pc L (.int y :: .int x :: S) := by
  subst hp
  obtain ⟨p, l, e, R, s, m, args, below, meth, cd, Q, g, A⟩ := K
  intro H locs ls hH hS hl hc
  exact lv_idiv C.1 C.2.1 d hy (kk H locs ls hH hS hl hc)

theorem g_i2l (C : Cx K cc own nL ret rm z) {x : Int32} (d : decode cc pc = .ok (.i2l, 1)) (hp : pc + 1 = pc') (kk : G K z I P O c n pc' L (.long x.toInt64 :: S)) : G K z I P O c n pc L (.int x :: S) := by
  subst hp
  obtain ⟨p, l, e, R, s, m, args, below, meth, cd, Q, g, A⟩ := K
  intro H locs ls hH hS hl hc
  exact lv_i2l C.1 C.2.1 d rfl (kk H locs ls hH hS hl hc)

theorem g_lcmp (C : Cx K cc own nL ret rm z) {x y : Int64} (d : decode cc pc = .ok (.lcmp, 1)) (hp : pc + 1 = pc') (kk : G K z I P O c n pc' L (.int (lg_cmp x y) :: S)) : G K z I P O c n pc L (.long y :: .long x :: S) := by
  subst hp
  obtain ⟨p, l, e, R, s, m, args, below, meth, cd, Q, g, A⟩ := K
  intro H locs ls hH hS hl hc
  exact W.lcmp C.1 C.2.1 d (kk H locs ls hH hS hl hc)

theorem g_dup (C : Cx K cc own nL ret rm z) {v : Value} (d : decode cc pc = .ok (.dup, 1)) (hv : v.category = 1) (hp : pc + 1 = pc') (kk : G K z I P O c n pc' L (v :: v :: S)) : G K z I P O c n pc L (v :: S) := by
  subst hp
  obtain ⟨p, l, e, R, s, m, args, below, meth, cd, Q, g, A⟩ := K
  intro H locs ls hH hS hl hc
  exact lv_dup C.1 C.2.1 d hv (kk H locs ls hH hS hl hc)

theorem g_dup2 (C : Cx K cc own nL ret rm z) {v u : Value} (d : decode cc pc = .ok (.dup2, 1)) (hv : v.category = 1) (hu : u.category = 1) (hp : pc + 1 = pc') (kk : G K z I P O c n pc' L (v :: u :: v :: u :: S)) : G K z I P O c n pc L (v :: u :: S) := by
  subst hp
  obtain ⟨p, l, e, R, s, m, args, below, meth, cd, Q, g, A⟩ := K
  intro H locs ls hH hS hl hc
  exact lv_dup2_11 C.1 C.2.1 d hv hu (kk H locs ls hH hS hl hc)

theorem g_if_eq (C : Cx K cc own nL ret rm z) {x : Int32} {off : Int} {tgt : Nat} (d : decode cc pc = .ok (.ifCond .eq off, 3)) (ht : (pc : Int) + off = (tgt : Int)) (hp : pc + 3 = pc') (kt : x = 0 → G K z I P O c n tgt L S) (kf : ¬ x = 0 → G K z I P O c n pc' L S) : G K z I P O c n pc L (.int x :: S) := by
  subst hp
  obtain ⟨p, l, e, R, s, m, args, below, meth, cd, Q, g, A⟩ := K
  intro H locs ls hH hS hl hc
  exact lv_if_eq C.1 C.2.1 d ht (fun h => kt h H locs ls hH hS hl hc) (fun h => kf h H locs ls hH hS hl hc)

theorem g_if_ne (C : Cx K cc own nL ret rm z) {x : Int32} {off : Int} {tgt : Nat} (d : decode cc pc = .ok (.ifCond .ne off, 3)) (ht : (pc : Int) + off = (tgt : Int)) (hp : pc + 3 = pc') (kt : ¬ x = 0 → G K z I P O c n tgt L S) (kf : x = 0 → G K z I P O c n pc' L S) : G K z I P O c n pc L (.int x :: S) := by
  subst hp
  obtain ⟨p, l, e, R, s, m, args, below, meth, cd, Q, g, A⟩ := K
  intro H locs ls hH hS hl hc
  exact lv_if_ne C.1 C.2.1 d ht (fun h => kt h H locs ls hH hS hl hc) (fun h => kf h H locs ls hH hS hl hc)

theorem g_if_lt (C : Cx K cc own nL ret rm z) {x : Int32} {off : Int} {tgt : Nat} (d : decode cc pc = .ok (.ifCond .lt off, 3)) (ht : (pc : Int) + off = (tgt : Int)) (hp : pc + 3 = pc') (kt : x < 0 → G K z I P O c n tgt L S) (kf : ¬ x < 0 → G K z I P O c n pc' L S) : G K z I P O c n pc L (.int x :: S) := by
  subst hp
  obtain ⟨p, l, e, R, s, m, args, below, meth, cd, Q, g, A⟩ := K
  intro H locs ls hH hS hl hc
  exact lv_if_lt C.1 C.2.1 d ht (fun h => kt h H locs ls hH hS hl hc) (fun h => kf h H locs ls hH hS hl hc)

theorem g_if_ge (C : Cx K cc own nL ret rm z) {x : Int32} {off : Int} {tgt : Nat} (d : decode cc pc = .ok (.ifCond .ge off, 3)) (ht : (pc : Int) + off = (tgt : Int)) (hp : pc + 3 = pc') (kt : 0 ≤ x → G K z I P O c n tgt L S) (kf : ¬ 0 ≤ x → G K z I P O c n pc' L S) : G K z I P O c n pc L (.int x :: S) := by
  subst hp
  obtain ⟨p, l, e, R, s, m, args, below, meth, cd, Q, g, A⟩ := K
  intro H locs ls hH hS hl hc
  exact lv_if_ge C.1 C.2.1 d ht (fun h => kt h H locs ls hH hS hl hc) (fun h => kf h H locs ls hH hS hl hc)

theorem g_if_gt (C : Cx K cc own nL ret rm z) {x : Int32} {off : Int} {tgt : Nat} (d : decode cc pc = .ok (.ifCond .gt off, 3)) (ht : (pc : Int) + off = (tgt : Int)) (hp : pc + 3 = pc') (kt : 0 < x → G K z I P O c n tgt L S) (kf : ¬ 0 < x → G K z I P O c n pc' L S) : G K z I P O c n pc L (.int x :: S) := by
  subst hp
  obtain ⟨p, l, e, R, s, m, args, below, meth, cd, Q, g, A⟩ := K
  intro H locs ls hH hS hl hc
  exact lv_if_gt C.1 C.2.1 d ht (fun h => kt h H locs ls hH hS hl hc) (fun h => kf h H locs ls hH hS hl hc)

theorem g_if_le (C : Cx K cc own nL ret rm z) {x : Int32} {off : Int} {tgt : Nat} (d : decode cc pc = .ok (.ifCond .le off, 3)) (ht : (pc : Int) + off = (tgt : Int)) (hp : pc + 3 = pc') (kt : x ≤ 0 → G K z I P O c n tgt L S) (kf : ¬ x ≤ 0 → G K z I P O c n pc' L S) : G K z I P O c n pc L (.int x :: S) := by
  subst hp
  obtain ⟨p, l, e, R, s, m, args, below, meth, cd, Q, g, A⟩ := K
  intro H locs ls hH hS hl hc
  exact lv_if_le C.1 C.2.1 d ht (fun h => kt h H locs ls hH hS hl hc) (fun h => kf h H locs ls hH hS hl hc)

theorem g_icmp_eq (C : Cx K cc own nL ret rm z) {x y : Int32} {off : Int} {tgt : Nat} (d : decode cc pc = .ok (.if_icmp .eq off, 3)) (ht : (pc : Int) + off = (tgt : Int)) (hp : pc + 3 = pc') (kt : x = y → G K z I P O c n tgt L S) (kf : ¬ x = y → G K z I P O c n pc' L S) : G K z I P O c n pc L (.int y :: .int x :: S) := by
  subst hp
  obtain ⟨p, l, e, R, s, m, args, below, meth, cd, Q, g, A⟩ := K
  intro H locs ls hH hS hl hc
  exact lv_icmp_eq C.1 C.2.1 d ht (fun h => kt h H locs ls hH hS hl hc) (fun h => kf h H locs ls hH hS hl hc)

theorem g_icmp_ne (C : Cx K cc own nL ret rm z) {x y : Int32} {off : Int} {tgt : Nat} (d : decode cc pc = .ok (.if_icmp .ne off, 3)) (ht : (pc : Int) + off = (tgt : Int)) (hp : pc + 3 = pc') (kt : ¬ x = y → G K z I P O c n tgt L S) (kf : x = y → G K z I P O c n pc' L S) : G K z I P O c n pc L (.int y :: .int x :: S) := by
  subst hp
  obtain ⟨p, l, e, R, s, m, args, below, meth, cd, Q, g, A⟩ := K
  intro H locs ls hH hS hl hc
  exact lv_icmp_ne C.1 C.2.1 d ht (fun h => kt h H locs ls hH hS hl hc) (fun h => kf h H locs ls hH hS hl hc)

theorem g_icmp_lt (C : Cx K cc own nL ret rm z) {x y : Int32} {off : Int} {tgt : Nat} (d : decode cc pc = .ok (.if_icmp .lt off, 3)) (ht : (pc : Int) + off = (tgt : Int)) (hp : pc + 3 = pc') (kt : x < y → G K z I P O c n tgt L S) (kf : ¬ x < y → G K z I P O c n pc' L S) : G K z I P O c n pc L (.int y :: .int x :: S) := by
  subst hp
  obtain ⟨p, l, e, R, s, m, args, below, meth, cd, Q, g, A⟩ := K
  intro H locs ls hH hS hl hc
  exact lv_icmp_lt C.1 C.2.1 d ht (fun h => kt h H locs ls hH hS hl hc) (fun h => kf h H locs ls hH hS hl hc)

theorem g_icmp_ge (C : Cx K cc own nL ret rm z) {x y : Int32} {off : Int} {tgt : Nat} (d : decode cc pc = .ok (.if_icmp .ge off, 3)) (ht : (pc : Int) + off = (tgt : Int)) (hp : pc + 3 = pc') (kt : y ≤ x → G K z I P O c n tgt L S) (kf : ¬ y ≤ x → G K z I P O c n pc' L S) : G K z I P O c n pc L (.int y :: .int x :: S) := by
  subst hp
  obtain ⟨p, l, e, R, s, m, args, below, meth, cd, Q, g, A⟩ := K
  intro H locs ls hH hS hl hc
  exact lv_icmp_ge C.1 C.2.1 d ht (fun h => kt h H locs ls hH hS hl hc) (fun h => kf h H locs ls hH hS hl hc)

theorem g_icmp_gt (C : Cx K cc own nL ret rm z) {x y : Int32} {off : Int} {tgt : Nat} (d : decode cc pc = .ok (.if_icmp .gt off, 3)) (ht : (pc : Int) + off = (tgt : Int)) (hp : pc + 3 = pc') (kt : y < x → G K z I P O c n tgt L S) (kf : ¬ y < x → G K z I P O c n pc' L S) : G K z I P O c n pc L (.int y :: .int x :: S) := by
  subst hp
  obtain ⟨p, l, e, R, s, m, args, below, meth, cd, Q, g, A⟩ := K
  intro H locs ls hH hS hl hc
  exact lv_icmp_gt C.1 C.2.1 d ht (fun h => kt h H locs ls hH hS hl hc) (fun h => kf h H locs ls hH hS hl hc)

theorem g_icmp_le (C : Cx K cc own nL ret rm z) {x y : Int32} {off : Int} {tgt : Nat} (d : decode cc pc = .ok (.if_icmp .le off, 3)) (ht : (pc : Int) + off = (tgt : Int)) (hp : pc + 3 = pc') (kt : x ≤ y → G K z I P O c n tgt L S) (kf : ¬ x ≤ y → G K z I P O c n pc' L S) : G K z I P O c n pc L (.int y :: .int x :: S) := by
  subst hp
  obtain ⟨p, l, e, R, s, m, args, below, meth, cd, Q, g, A⟩ := K
  intro H locs ls hH hS hl hc
  exact lv_icmp_le C.1 C.2.1 d ht (fun h => kt h H locs ls hH hS hl hc) (fun h => kf h H locs ls hH hS hl hc)

theorem g_acmp_eq (C : Cx K cc own nL ret rm z) {x y : Option Nat} {off : Int} {tgt : Nat} (d : decode cc pc = .ok (.if_acmp .eq off, 3)) (ht : (pc : Int) + off = (tgt : Int)) (hp : pc + 3 = pc') (kt : x = y → G K z I P O c n tgt L S) (kf : ¬ x = y → G K z I P O c n pc' L S) : G K z I P O c n pc L (va_rf y :: va_rf x :: S) := by
  subst hp
  obtain ⟨p, l, e, R, s, m, args, below, meth, cd, Q, g, A⟩ := K
  intro H locs ls hH hS hl hc
  exact lv_acmp_eq C.1 C.2.1 d ht (fun h => kt h H locs ls hH hS hl hc) (fun h => kf h H locs ls hH hS hl hc)

theorem g_acmp_ne (C : Cx K cc own nL ret rm z) {x y : Option Nat} {off : Int} {tgt : Nat} (d : decode cc pc = .ok (.if_acmp .ne off, 3)) (ht : (pc : Int) + off = (tgt : Int)) (hp : pc + 3 = pc') (kt : ¬ x = y → G K z I P O c n tgt L S) (kf : x = y → G K z I P O c n pc' L S) : G K z I P O c n pc L (va_rf y :: va_rf x :: S) := by
  subst hp
  obtain ⟨p, l, e, R, s, m, args, below, meth, cd, Q, g, A⟩ := K
  intro H locs ls hH hS hl hc
  exact lv_acmp_ne C.1 C.2.1 d ht (fun h => kt h H locs ls hH hS hl hc) (fun h => kf h H locs ls hH hS hl hc)

theorem g_goto (C : Cx K cc own nL ret rm z) {off : Int} {tgt : Nat} (d : decode cc pc = .ok (.goto off, 3)) (ht : (pc : Int) + off = (tgt : Int)) (kk : G K z I P O c n tgt L S) : G K z I P O c n pc L S := by
  obtain ⟨p, l, e, R, s, m, args, below, meth, cd, Q, g, A⟩ := K
  intro H locs ls hH hS hl hc
  exact lv_goto C.1 C.2.1 d ht (kk H locs ls hH hS hl hc)
theorem g_ifnonnull (C : Cx K cc own nL ret rm z) {x : Nat} {off : Int} {tgt : Nat} (d : decode cc pc = .ok (.ifnonnull off, 3)) (ht : (pc : Int) + off = (tgt : Int)) (kk : G K z I P O c n tgt L S) : G K z I P O c n pc L (.ref x :: S) := by
  obtain ⟨p, l, e, R, s, m, args, below, meth, cd, Q, g, A⟩ := K
  intro H locs ls hH hS hl hc
  exact lv_ifnonnull C.1 C.2.1 d ht (kk H locs ls hH hS hl hc)
theorem g_ifnullN (C : Cx K cc own nL ret rm z) {off : Int} {tgt : Nat} (d : decode cc pc = .ok (.ifnull off, 3)) (ht : (pc : Int) + off = (tgt : Int)) (kk : G K z I P O c n tgt L S) : G K z I P O c n pc L (.null :: S) := by
  obtain ⟨p, l, e, R, s, m, args, below, meth, cd, Q, g, A⟩ := K
  intro H locs ls hH hS hl hc
  exact lv_ifnullN C.1 C.2.1 d ht (kk H locs ls hH hS hl hc)
theorem g_ifnull (C : Cx K cc own nL ret rm z) {x : Nat} {off : Int} (d : decode cc pc = .ok (.ifnull off, 3)) (hp : pc + 3 = pc') (kk : G K z I P O c n pc' L S) : G K z I P O c n pc L (.ref x :: S) := by
  subst hp
  obtain ⟨p, l, e, R, s, m, args, below, meth, cd, Q, g, A⟩ := K
  intro H locs ls hH hS hl hc
  exact lv_ifnull C.1 C.2.1 d (kk H locs ls hH hS hl hc)
theorem g_ifnonnullN (C : Cx K cc own nL ret rm z) {off : Int} (d : decode cc pc = .ok (.ifnonnull off, 3)) (hp : pc + 3 = pc') (kk : G K z I P O c n pc' L S) : G K z I P O c n pc L (.null :: S) := by
  subst hp
  obtain ⟨p, l, e, R, s, m, args, below, meth, cd, Q, g, A⟩ := K
  intro H locs ls hH hS hl hc
  exact lv_ifnonnullN C.1 C.2.1 d (kk H locs ls hH hS hl hc)
theorem g_tabOut (C : Cx K cc own nL ret rm z) {dflt lo hi : Int} {offs : Array Int} {len : Nat} {x : Int32} {tgt : Nat} (d : decode cc pc = .ok (.tableswitch dflt lo hi offs, len)) (h : x.toInt < lo ∨ hi < x.toInt) (ht : (pc : Int) + dflt = (tgt : Int)) (kk : G K z I P O c n tgt L S) : G K z I P O c n pc L (.int x :: S) := by
  obtain ⟨p, l, e, R, s, m, args, below, meth, cd, Q, g, A⟩ := K
  intro H locs ls hH hS hl hc
  exact lv_tableOut C.1 C.2.1 d h ht (kk H locs ls hH hS hl hc)
theorem g_tabIn (C : Cx K cc own nL ret rm z) {dflt lo hi : Int} {offs : Array Int} {len : Nat} {x : Int32} {off : Int} {tgt : Nat} (k : Int) (hx : x.toInt = k) (d : decode cc pc = .ok (.tableswitch dflt lo hi offs, len)) (h1 : lo ≤ k) (h2 : k ≤ hi) (ho : offs[(k - lo).toNat]? = some off) (ht : (pc : Int) + off = (tgt : Int)) (kk : G K z I P O c n tgt L S) : G K z I P O c n pc L (.int x :: S) := by
  obtain ⟨p, l, e, R, s, m, args, below, meth, cd, Q, g, A⟩ := K
  intro H locs ls hH hS hl hc
  subst hx
  exact lv_tableIn C.1 C.2.1 d (Int.not_lt.mpr h1) (Int.not_lt.mpr h2) ho ht (kk H locs ls hH hS hl hc)

end WBase
end
section
section WRows
variable {p : Program} {l : Launch} {e : Env} {R : Room} {s : State} {m : MethodId} {args : Array Value} {below : List Frame} {meth : Method} {cd : Code} {H : Heap} {locs : List Loc} {cells slots : Nat} {Q : State → Prop}
variable {cc : ByteArray} {pc : Nat} {ls : Array Slot} {rest : List Value} {D : va_G} {cl : List vw_C} {a : Nat} {tys : List (ClassId × FieldType)}
/-- one field of one thing is written; nothing else -/
theorem cl_put (hexec : p.tables.exec = Jvm.exec) (hb : cd.code = cc) {own ref C : String} {T : u_T} {N ci index : Nat} {Ts : List Cond} (hts : ∀ w ∈ Ts, w.before args s = true) (hin : ∀ w ∈ u_ws C T N, w ∈ Ts) (ty0 : Nat → FieldType) (hty : ∀ k, k < N → parseFieldDescriptor (T k).2.2.1 = some (ty0 k)) (hnm : ∀ a, a < N → ∀ b, b < N → a ≠ b → (T a).2.1 ≠ (T b).2.1) (hown : s.vm.findClass own = some m.cls) (hK : va_K D cl tys s) {fs : List Value} (hP : va_at D cl (a, .inr (ci, fs)) H) (hc : cl[ci]? = some (C, T, N)) (k : Nat) (hk : k < N) (hlink : (Cond.fieldLink own index ref (T k).2.1 (T k).2.2.1).before args s = true) (hsame : ∀ x, s.fieldFound? (T k).1 (T k).2.1 (T k).2.2.1 = some x → s.fieldFound? ref (T k).2.1 (T k).2.2.1 = some x) (hfin : (T k).2.2.2 = false) {ty : FieldType} {v : Value} (hd : parseFieldDescriptor (T k).2.2.1 = some ty) (hn : narrow ty v = v) (hfit : fits ty v = true) (hl : k < fs.length)
    (hdg : decode cc pc = .ok (.putfield index, 3)) (kk : ∀ (H1 : Heap) (j : Nat), va_at D cl (a, .inr (ci, fs.set k v)) H1 → H1.size = H.size → (∀ q : Nat, q ≠ a → H1[q]? = H[q]?) → W p l e R s m args below meth cd H1 (locs ++ [⟨a, j⟩]) cells slots Q (F0 m (pc + 3) ls rest)) : W p l e R s m args below meth cd H locs cells slots Q (F0 m pc ls (v :: .ref a :: rest)) := by
  have hap := va_apart (own := own) hts hin ty0 hty hnm hK hc
  obtain ⟨r, h1, cell, q1, q2, q3, q4⟩ := hP
  have hr : r = (C, T, N) := Option.some.inj (h1.symm.trans hc)
  subst hr
  obtain ⟨hS, hfc, kC, hkC, hkind⟩ := hK.1 ci _ hc
  obtain ⟨cf, kf, fi, f, hi, hsl⟩ := hS k hk
  have hlay := hts _ (hin _ (u_in_lay hk))
  unfold u_lay at hlay
  rw [if_neg (by rw [hfin]; decide)] at hlay
  have hst := (u_facts hfc hkC (u_lays hts hin hk) hi).1
  have h6 := u_store hfc hkC hkind hlay hi hd hn hfit
  refine W.putK hexec hb (f := f) ⟨hown, hlink, ⟨_, _, _, hsame _ hi⟩, hst⟩ (by rw [q2]; exact h6) q1 q3 (by rw [hsl]; exact k2_hasslot (q4 k hk)) rfl rfl hdg fun H' e1 e2 e3 => ?_
  rw [hsl] at e1 ⊢
  exact kk H' _ ⟨_, hc, t_OB.to (V := updV (vp_V fs) k v) ⟨_, e1, q2, q3, t_set q4 hap hk v⟩ (fun j _ => vp_updV_set hl v j)⟩ e2 e3
theorem cl_one {q : Nat × va_E} (h : va_at D cl q H) : va_P D cl [q] H := fun k x hx => by
  cases k with
  | zero => cases hx; exact h
  | succ k => cases hx
theorem cl_iast (hexec : p.tables.exec = Jvm.exec) (hb : cd.code = cc) (hK : va_K D cl tys s) (t0 : Nat) {cA : ClassId} {n : Nat} {f : Nat → Int32} (ha : va_at D cl (a, .inl (cA, n, .inl f)) H) (ht : tys[t0]? = some (cA, .int)) {i : Int32} {x : Int32} (hin : vp_in i n) (hdg : decode cc pc = .ok (.iastore, 1))
    (kk : ∀ (H1 : Heap) (j : Nat), va_at D cl (a, .inl (cA, n, .inl (upd f i.toNatClampNeg x))) H1 → H1.size = H.size → (∀ q : Nat, q ≠ a → H1[q]? = H[q]?) → W p l e R s m args below meth cd H1 (locs ++ [⟨a, j⟩]) cells slots Q (F0 m (pc + 1) ls rest)) : W p l e R s m args below meth cd H locs cells slots Q (F0 m pc ls (.int x :: .int i :: .ref a :: rest)) := by
  refine W.iast hexec hb ha ((hK.2 t0 _ ht).1 n (fun j => .int (f j))) (fun q => by cases q) (by show ¬ (i < 0 ∨ (arrV _ _ _).slots.size ≤ _); rw [arrV_size]; exact hin) rfl rfl hdg fun H1 e z oq => ?_
  refine kk H1 _ ?_ z oq
  show H1[a]? = some (vp_cell _ _)
  rw [e]
  rw [vp_cell_i, vp_cell_i, arrV_store]
  congr 2
  funext q
  by_cases hq : q = i.toNatClampNeg
  · subst hq
    simp [updV, upd]
  · simp [updV, upd, hq]
theorem cl_zast (hexec : p.tables.exec = Jvm.exec) (hb : cd.code = cc) (hK : va_K D cl tys s) (t0 : Nat) {cA : ClassId} {n : Nat} {f : Nat → Int32} (ha : va_at D cl (a, .inl (cA, n, .inl f)) H) (ht : tys[t0]? = some (cA, .boolean)) {i : Int32} {x : Int32} (hin : vp_in i n) (hdg : decode cc pc = .ok (.bastore, 1))
    (kk : ∀ (H1 : Heap) (j : Nat), va_at D cl (a, .inl (cA, n, .inl (upd f i.toNatClampNeg (vp_nar .boolean x)))) H1 → H1.size = H.size → (∀ q : Nat, q ≠ a → H1[q]? = H[q]?) → W p l e R s m args below meth cd H1 (locs ++ [⟨a, j⟩]) cells slots Q (F0 m (pc + 1) ls rest)) : W p l e R s m args below meth cd H locs cells slots Q (F0 m pc ls (.int x :: .int i :: .ref a :: rest)) := by
  refine W.zast hexec hb ha ((hK.2 t0 _ ht).1 n (fun j => .int (f j))) (fun q => by cases q) (by show ¬ (i < 0 ∨ (arrV _ _ _).slots.size ≤ _); rw [arrV_size]; exact hin) rfl rfl hdg fun H1 e z oq => ?_
  refine kk H1 _ ?_ z oq
  show H1[a]? = some (vp_cell _ _)
  rw [e]
  rw [vp_cell_i, vp_cell_i, arrV_store]
  congr 2
  funext q
  by_cases hq : q = i.toNatClampNeg
  · subst hq
    simp [updV, upd, vp_nar]
    try rfl
  · simp [updV, upd, hq]
theorem cl_last (hexec : p.tables.exec = Jvm.exec) (hb : cd.code = cc) (hK : va_K D cl tys s) (t0 : Nat) {cA : ClassId} {n : Nat} {f : Nat → Int64} (ha : va_at D cl (a, .inl (cA, n, .inr (.inl f))) H) (ht : tys[t0]? = some (cA, .long)) {i : Int32} {x : Int64} (hin : vp_in i n) (hdg : decode cc pc = .ok (.lastore, 1))
    (kk : ∀ (H1 : Heap) (j : Nat), va_at D cl (a, .inl (cA, n, .inr (.inl (vp_updL f i.toNatClampNeg x)))) H1 → H1.size = H.size → (∀ q : Nat, q ≠ a → H1[q]? = H[q]?) → W p l e R s m args below meth cd H1 (locs ++ [⟨a, j⟩]) cells slots Q (F0 m (pc + 1) ls rest)) : W p l e R s m args below meth cd H locs cells slots Q (F0 m pc ls (.long x :: .int i :: .ref a :: rest)) := by
  refine W.last hexec hb ha ((hK.2 t0 _ ht).1 n (fun j => .long (f j))) (fun q => by cases q) (by show ¬ (i < 0 ∨ (arrV _ _ _).slots.size ≤ _); rw [arrV_size]; exact hin) rfl rfl hdg fun H1 e z oq => ?_
  refine kk H1 _ ?_ z oq
  show H1[a]? = some (vp_cell _ _)
  rw [e]
  rw [vp_cell_l, vp_cell_l, arrV_store]
  congr 2
  funext q
  by_cases hq : q = i.toNatClampNeg
  · subst hq
    simp [updV, vp_updL]
  · simp [updV, vp_updL, hq]
theorem cl_aast (hexec : p.tables.exec = Jvm.exec) (hb : cd.code = cc) (hK : va_K D cl tys s) (t0 ci : Nat) {cA : ClassId} {r : vw_C} {n v : Nat} {vs : List Value} {f : Nat → Option Nat} (ha : va_at D cl (a, .inl (cA, n, .inr (.inr (.inr (.inr f))))) H) (ht : tys[t0]? = some (cA, .object r.1)) (hv : va_at D cl (v, .inr (ci, vs)) H) (hc : cl[ci]? = some r) {i : Int32} (hin : vp_in i n) (hdg : decode cc pc = .ok (.aastore, 1))
    (kk : ∀ (H1 : Heap) (j : Nat), va_at D cl (a, .inl (cA, n, .inr (.inr (.inr (.inr (va_up f i.toNatClampNeg (some v))))))) H1 → H1.size = H.size → (∀ q : Nat, q ≠ a → H1[q]? = H[q]?) → W p l e R s m args below meth cd H1 (locs ++ [⟨a, j⟩]) cells slots Q (F0 m (pc + 1) ls rest)) : W p l e R s m args below meth cd H locs cells slots Q (F0 m pc ls (.ref v :: .int i :: .ref a :: rest)) := by
  have hlt : i.toNatClampNeg < n := Nat.not_le.mp fun q => hin (Or.inr q)
  have h0 : ¬ i < 0 := fun q => hin (Or.inl q)
  obtain ⟨r', hr', cellV, g1, g2, g3, -⟩ := hv
  have hcls := (hK.1 ci r hc).2
  obtain ⟨kA, comp, k1, k2, k3, -⟩ := (hK.2 t0 _ ht).2
  have hcomp : comp = D.1 ci := Option.some.inj (k3.symm.trans hcls.1)
  subst hcomp
  obtain ⟨kC, hkC, -⟩ := hcls.2
  refine W.aast hexec hb ha (fun q h => by cases h) (fun h => by cases h) k1 k2 rfl hkC ⟨h0, by show _ < (arrV _ _ _).slots.size; rw [arrV_size]; exact hlt⟩ g1 (fun q h => by rw [g3] at h; cases h) (by rw [g2]; exact hkC) (by rw [g2]; exact va_assign hcls) rfl rfl hdg fun H1 e z oq => ?_
  refine kk H1 _ ?_ z oq
  show H1[a]? = some (vp_cell _ _)
  rw [e]
  rw [vp_cell_q, vp_cell_q, arrV_store]
  congr 2
  funext q
  by_cases hq : q = i.toNatClampNeg
  · subst hq
    simp [updV, va_up, va_rf]
  · simp [updV, va_up, hq]
theorem cl_aastN (hexec : p.tables.exec = Jvm.exec) (hb : cd.code = cc) (hK : va_K D cl tys s) (t0 : Nat) {cA : ClassId} {C : String} {n : Nat} {f : Nat → Option Nat} (ha : va_at D cl (a, .inl (cA, n, .inr (.inr (.inr (.inr f))))) H) (ht : tys[t0]? = some (cA, .object C)) {i : Int32} (hin : vp_in i n) (hdg : decode cc pc = .ok (.aastore, 1))
    (kk : ∀ (H1 : Heap) (j : Nat), va_at D cl (a, .inl (cA, n, .inr (.inr (.inr (.inr (va_up f i.toNatClampNeg none)))))) H1 → H1.size = H.size → (∀ q : Nat, q ≠ a → H1[q]? = H[q]?) → W p l e R s m args below meth cd H1 (locs ++ [⟨a, j⟩]) cells slots Q (F0 m (pc + 1) ls rest)) : W p l e R s m args below meth cd H locs cells slots Q (F0 m pc ls (.null :: .int i :: .ref a :: rest)) := by
  refine va_WaastN (C := C) hexec hb ha ((hK.2 t0 _ ht).1 n (fun j => va_rf (f j))) (fun h => by cases h) (by show ¬ (i < 0 ∨ (arrV _ _ _).slots.size ≤ _); rw [arrV_size]; exact hin) rfl rfl hdg fun H1 e z oq => ?_
  refine kk H1 _ ?_ z oq
  show H1[a]? = some (vp_cell _ _)
  rw [e]
  rw [vp_cell_q, vp_cell_q, arrV_store]
  congr 2
  funext q
  by_cases hq : q = i.toNatClampNeg
  · subst hq
    simp [updV, va_up, va_rf]
  · simp [updV, va_up, hq]
end WRows
section WRows2
variable {K : wK} {cc : ByteArray} {own : String} {nL : Nat} {ret : Option FieldType} {rm : Room} {z : wZ} {I : wI} {P : wP} {O : wO} {c n pc pc' : Nat} {L : List (Nat × Value)} {S : List Value}
theorem g_getf (C : Cx K cc own nL ret rm z) {ci index k i f N : Nat} {fs : List Value} {v : Value} {Cn ref : String} {T : u_T} (d : decode cc pc = .ok (.getfield index, 3)) (hal : wAl z k i) (he : wE (Kg K) (I k i) (P k i) O k i = .inr (ci, fs)) (hc : vwCl[ci]? = some (Cn, T, N)) (hin : ∀ w ∈ u_ws Cn T N, w ∈ wAll) (hk : f < N) (hlink : Cond.fieldLink own index ref (T f).2.1 (T f).2.2.1 ∈ wAll) (hsame : (T f).1 = ref) (hv : fs[f]? = some v) (hp : pc + 3 = pc') (kk : G K z I P O c n pc' L (v :: S)) : G K z I P O c n pc L (.ref ((Kg K).2.2 k i) :: S) := by
  subst hp
  subst hsame
  obtain ⟨p, l, e, R, s, m, args, below, meth, cd, Q, g, A⟩ := K
  obtain ⟨hx, hb, -, -, hown, hts, -, hK, -, -⟩ := C
  intro H locs ls hH hS hl hcat
  have hP := cl_one (hH.1 k i hal)
  rw [show wE g (I k i) (P k i) O k i = .inr (ci, fs) from he] at hP
  exact va_get hx hb hts hin hown hK hP 0 rfl hc f hk (hts _ hlink) (fun _ h => h) hv d (kk H locs ls hH hS hl hcat)
theorem g_putf (C : Cx K cc own nL ret rm z) {ci index k i f N : Nat} {fs : List Value} {x : Int32} {Cn ref : String} {T : u_T} {ty0 : Nat → FieldType} {ty : FieldType} (d : decode cc pc = .ok (.putfield index, 3)) (hal : wAl z k i) (he : wE (Kg K) (I k i) (P k i) O k i = .inr (ci, fs)) (hc : vwCl[ci]? = some (Cn, T, N)) (hin : ∀ w ∈ u_ws Cn T N, w ∈ wAll) (hty : ∀ k, k < N → parseFieldDescriptor (T k).2.2.1 = some (ty0 k)) (hnm : ∀ a, a < N → ∀ b, b < N → a ≠ b → (T a).2.1 ≠ (T b).2.1) (hk : f < N) (hlink : Cond.fieldLink own index ref (T f).2.1 (T f).2.2.1 ∈ wAll) (hsame : (T f).1 = ref) (hfin : (T f).2.2.2 = false) (hd : parseFieldDescriptor (T f).2.2.1 = some ty) (hn : narrow ty (.int x) = .int x) (hfit : fits ty (.int x) = true) (hl : f < fs.length)
    (he' : wE (Kg K) (upd (I k i) f x) (P k i) O k i = .inr (ci, fs.set f (.int x))) (hp : pc + 3 = pc') (kk : G K z (upI I k i f x) P O c n pc' L S) : G K z I P O c n pc L (.int x :: .ref ((Kg K).2.2 k i) :: S) := by
  subst hp
  subst hsame
  obtain ⟨p, l, e, R, s, m, args, below, meth, cd, Q, g, A⟩ := K
  obtain ⟨hx, hb, -, -, hown, hts, -, hK, -, hA⟩ := C
  intro H locs ls hH hS hl2 hcat
  have hP := hH.1 k i hal
  rw [show wE g (I k i) (P k i) O k i = .inr (ci, fs) from he] at hP
  refine cl_put hx hb hts hin ty0 hty hnm hown hK hP hc f hk (hts _ hlink) (fun _ h => h) hfin hd hn hfit hl d (fun H1 j h1 hz oq => ?_)
  refine kk H1 _ ls (hH.put hal (fun a b h => upI_off I x h) (fun _ _ _ => rfl) (fun _ _ _ _ => rfl) ?_ oq) (hS.put hz oq (hA k i hal)) hl2 hcat
  rw [upI_row, show wE g (upd (I k i) f x) (P k i) O k i = _ from he']
  exact h1
theorem g_iald (C : Cx K cc own nL ret rm z) {k i N : Nat} {j : Int32} (t : Nat) (hj : j = nI t) (ht : t < N) (d : decode cc pc = .ok (.iaload, 1)) (hal : wAl z k i) (he : wE (Kg K) (I k i) (P k i) O k i = .inl ((Kg K).2.1 0, N, .inl (I k i))) (hN : Nat.blt N 5000 = true) (hp : pc + 1 = pc') (kk : G K z I P O c n pc' L (.int (I k i t) :: S)) : G K z I P O c n pc L (.int j :: .ref ((Kg K).2.2 k i) :: S) := by
  subst hp
  subst hj
  have hN : N < 5000 := Nat.le_of_ble_eq_true hN
  obtain ⟨p, l, e, R, s, m, args, below, meth, cd, Q, g, A⟩ := K
  obtain ⟨hx, hb, -, -, hown, hts, -, hK, -, hA⟩ := C
  intro H locs ls hH hS hl hcat
  have hP := cl_one (hH.1 k i hal)
  rw [show wE g (I k i) (P k i) O k i = _ from he] at hP
  have kk := kk H locs ls hH hS hl hcat
  rw [← nI_clamp (n := t) (by omega)] at kk
  exact va_iald hx hb hK hP 0 0 rfl rfl (vp_in_nI ht (by omega)) d kk
theorem g_zald (C : Cx K cc own nL ret rm z) {k i N : Nat} {j : Int32} (t : Nat) (hj : j = nI t) (ht : t < N) (d : decode cc pc = .ok (.baload, 1)) (hal : wAl z k i) (he : wE (Kg K) (I k i) (P k i) O k i = .inl ((Kg K).2.1 1, N, .inl (I k i))) (hN : Nat.blt N 5000 = true) (hp : pc + 1 = pc') (kk : G K z I P O c n pc' L (.int (I k i t) :: S)) : G K z I P O c n pc L (.int j :: .ref ((Kg K).2.2 k i) :: S) := by
  subst hp
  subst hj
  have hN : N < 5000 := Nat.le_of_ble_eq_true hN
  obtain ⟨p, l, e, R, s, m, args, below, meth, cd, Q, g, A⟩ := K
  obtain ⟨hx, hb, -, -, hown, hts, -, hK, -, hA⟩ := C
  intro H locs ls hH hS hl hcat
  have hP := cl_one (hH.1 k i hal)
  rw [show wE g (I k i) (P k i) O k i = _ from he] at hP
  have kk := kk H locs ls hH hS hl hcat
  rw [← nI_clamp (n := t) (by omega)] at kk
  exact va_zald hx hb hK hP 0 1 rfl rfl (vp_in_nI ht (by omega)) d kk
theorem g_iast (C : Cx K cc own nL ret rm z) {k i N : Nat} {j x : Int32} (t : Nat) (hj : j = nI t) (ht : t < N) (d : decode cc pc = .ok (.iastore, 1)) (hal : wAl z k i) (he : ∀ f, wE (Kg K) f (P k i) O k i = .inl ((Kg K).2.1 0, N, .inl f)) (hN : Nat.blt N 5000 = true) (hp : pc + 1 = pc') (kk : G K z (upI I k i t x) P O c n pc' L S) : G K z I P O c n pc L (.int x :: .int j :: .ref ((Kg K).2.2 k i) :: S) := by
  subst hp
  subst hj
  have hN : N < 5000 := Nat.le_of_ble_eq_true hN
  obtain ⟨p, l, e, R, s, m, args, below, meth, cd, Q, g, A⟩ := K
  obtain ⟨hx, hb, -, -, hown, hts, -, hK, -, hA⟩ := C
  intro H locs ls hH hS hl hcat
  have hP := hH.1 k i hal
  rw [show wE g (I k i) (P k i) O k i = _ from he _] at hP
  refine cl_iast hx hb hK 0 hP rfl (vp_in_nI ht (by omega)) d (fun H1 q h1 hz oq => ?_)
  refine kk H1 _ ls (hH.put hal (fun a b h => upI_off I x h) (fun _ _ _ => rfl) (fun _ _ _ _ => rfl) ?_ oq) (hS.put hz oq (hA k i hal)) hl hcat
  rw [upI_row, show wE g (upd (I k i) t x) (P k i) O k i = _ from he _]
  rw [nI_clamp (n := t) (by omega)] at h1
  exact h1
theorem g_zast (C : Cx K cc own nL ret rm z) {k i N : Nat} {j x : Int32} (t : Nat) (hj : j = nI t) (ht : t < N) (hx01 : vp_nar .boolean x = x) (d : decode cc pc = .ok (.bastore, 1)) (hal : wAl z k i) (he : ∀ f, wE (Kg K) f (P k i) O k i = .inl ((Kg K).2.1 1, N, .inl f)) (hN : Nat.blt N 5000 = true) (hp : pc + 1 = pc') (kk : G K z (upI I k i t x) P O c n pc' L S) : G K z I P O c n pc L (.int x :: .int j :: .ref ((Kg K).2.2 k i) :: S) := by
  subst hp
  subst hj
  have hN : N < 5000 := Nat.le_of_ble_eq_true hN
  obtain ⟨p, l, e, R, s, m, args, below, meth, cd, Q, g, A⟩ := K
  obtain ⟨hx, hb, -, -, hown, hts, -, hK, -, hA⟩ := C
  intro H locs ls hH hS hl hcat
  have hP := hH.1 k i hal
  rw [show wE g (I k i) (P k i) O k i = _ from he _] at hP
  refine cl_zast hx hb hK 1 hP rfl (vp_in_nI ht (by omega)) d (fun H1 q h1 hz oq => ?_)
  refine kk H1 _ ls (hH.put hal (fun a b h => upI_off I x h) (fun _ _ _ => rfl) (fun _ _ _ _ => rfl) ?_ oq) (hS.put hz oq (hA k i hal)) hl hcat
  rw [upI_row, show wE g (upd (I k i) t x) (P k i) O k i = _ from he _]
  rw [nI_clamp (n := t) (by omega), hx01] at h1
  exact h1
/-- a row of things: what lies there is known -/
theorem g_aald (C : Cx K cc own nL ret rm z) {k i N k2 t0 : Nat} {j : Int32} {Cn : String} {cA : ClassId} {o : Option Nat} (t : Nat) (hj : j = nI t) (ht : t < N) (hq : P k i t = o) (d : decode cc pc = .ok (.aaload, 1)) (hal : wAl z k i) (he : wE (Kg K) (I k i) (P k i) O k i = .inl (cA, N, .inr (.inr (.inr (.inr (fun j => (P k i j).map ((Kg K).2.2 k2))))))) (hty : (wTy (Kg K))[t0]? = some (cA, .object Cn)) (hN : Nat.blt N 5000 = true) (hp : pc + 1 = pc') (kk : G K z I P O c n pc' L (va_rf (o.map ((Kg K).2.2 k2)) :: S)) : G K z I P O c n pc L (.int j :: .ref ((Kg K).2.2 k i) :: S) := by
  subst hp
  subst hj
  subst hq
  have hN : N < 5000 := Nat.le_of_ble_eq_true hN
  obtain ⟨p, l, e, R, s, m, args, below, meth, cd, Q, g, A⟩ := K
  obtain ⟨hx, hb, -, -, hown, hts, -, hK, -, hA⟩ := C
  intro H locs ls hH hS hl hcat
  have hP := cl_one (hH.1 k i hal)
  rw [show wE g (I k i) (P k i) O k i = _ from he] at hP
  have kk := kk H locs ls hH hS hl hcat
  rw [← nI_clamp (n := t) (by omega)] at kk
  exact va_aldq hx hb hK hP 0 t0 rfl hty (vp_in_nI ht (by omega)) d kk
theorem wQ_up {ad : Nat → Nat} {f : Nat → Option Nat} {t : Nat} {v : Option Nat} : (fun j => (va_up f t v j).map ad) = va_up (fun j => (f j).map ad) t (v.map ad) := by
  funext j
  unfold va_up
  split <;> rfl
theorem g_aast (C : Cx K cc own nL ret rm z) {k i N k2 t0 ci v : Nat} {j : Int32} {r : vw_C} {vs : List Value} {cA : ClassId} (t : Nat) (hj : j = nI t) (ht : t < N) (d : decode cc pc = .ok (.aastore, 1)) (hal : wAl z k i) (halv : wAl z k2 v) (he : ∀ q, wE (Kg K) (I k i) q O k i = .inl (cA, N, .inr (.inr (.inr (.inr (fun j => (q j).map ((Kg K).2.2 k2))))))) (hev : wE (Kg K) (I k2 v) (P k2 v) O k2 v = .inr (ci, vs)) (hc : vwCl[ci]? = some r) (hty : (wTy (Kg K))[t0]? = some (cA, .object r.1)) (hN : Nat.blt N 5000 = true) (hp : pc + 1 = pc') (kk : G K z I (upP P k i t (some v)) O c n pc' L S) : G K z I P O c n pc L (.ref ((Kg K).2.2 k2 v) :: .int j :: .ref ((Kg K).2.2 k i) :: S) := by
  subst hp
  subst hj
  have hN : N < 5000 := Nat.le_of_ble_eq_true hN
  obtain ⟨p, l, e, R, s, m, args, below, meth, cd, Q, g, A⟩ := K
  obtain ⟨hx, hb, -, -, hown, hts, -, hK, -, hA⟩ := C
  intro H locs ls hH hS hl hcat
  have hP := hH.1 k i hal
  rw [show wE g (I k i) (P k i) O k i = _ from he _] at hP
  have hV := hH.1 k2 v halv
  rw [show wE g (I k2 v) (P k2 v) O k2 v = _ from hev] at hV
  refine cl_aast hx hb hK t0 ci hP hty hV hc (vp_in_nI ht (by omega)) d (fun H1 q h1 hz oq => ?_)
  refine kk H1 _ ls (hH.put hal (fun _ _ _ => rfl) (fun a b h => upP_off P _ h) (fun _ _ _ _ => rfl) ?_ oq) (hS.put hz oq (hA k i hal)) hl hcat
  rw [upP_row, show wE g (I k i) (va_up (P k i) t (some v)) O k i = _ from he _, wQ_up]
  rw [nI_clamp (n := t) (by omega)] at h1
  exact h1
theorem g_aastN (C : Cx K cc own nL ret rm z) {k i N k2 t0 : Nat} {j : Int32} {Cn : String} {cA : ClassId} (t : Nat) (hj : j = nI t) (ht : t < N) (d : decode cc pc = .ok (.aastore, 1)) (hal : wAl z k i) (he : ∀ q, wE (Kg K) (I k i) q O k i = .inl (cA, N, .inr (.inr (.inr (.inr (fun j => (q j).map ((Kg K).2.2 k2))))))) (hty : (wTy (Kg K))[t0]? = some (cA, .object Cn)) (hN : Nat.blt N 5000 = true) (hp : pc + 1 = pc') (kk : G K z I (upP P k i t none) O c n pc' L S) : G K z I P O c n pc L (.null :: .int j :: .ref ((Kg K).2.2 k i) :: S) := by
  subst hp
  subst hj
  have hN : N < 5000 := Nat.le_of_ble_eq_true hN
  obtain ⟨p, l, e, R, s, m, args, below, meth, cd, Q, g, A⟩ := K
  obtain ⟨hx, hb, -, -, hown, hts, -, hK, -, hA⟩ := C
  intro H locs ls hH hS hl hcat
  have hP := hH.1 k i hal
  rw [show wE g (I k i) (P k i) O k i = _ from he _] at hP
  refine cl_aastN hx hb hK t0 hP hty (vp_in_nI ht (by omega)) d (fun H1 q h1 hz oq => ?_)
  refine kk H1 _ ls (hH.put hal (fun _ _ _ => rfl) (fun a b h => upP_off P _ h) (fun _ _ _ _ => rfl) ?_ oq) (hS.put hz oq (hA k i hal)) hl hcat
  rw [upP_row, show wE g (I k i) (va_up (P k i) t none) O k i = _ from he _, wQ_up]
  rw [nI_clamp (n := t) (by omega)] at h1
  exact h1
theorem g_alen (C : Cx K cc own nL ret rm z) {k i t0 : Nat} {cA : ClassId} {x : vp_A} {ty : FieldType} {v : Int32} (d : decode cc pc = .ok (.arraylength, 1)) (hal : wAl z k i) (he : wE (Kg K) (I k i) (P k i) O k i = .inl (cA, x)) (hty : (wTy (Kg K))[t0]? = some (cA, ty)) (hv : Int32.ofNat x.1 = v) (hp : pc + 1 = pc') (kk : G K z I P O c n pc' L (.int v :: S)) : G K z I P O c n pc L (.ref ((Kg K).2.2 k i) :: S) := by
  subst hp
  obtain ⟨p, l, e, R, s, m, args, below, meth, cd, Q, g, A⟩ := K
  obtain ⟨hx, hb, -, -, hown, hts, -, hK, -, hA⟩ := C
  intro H locs ls hH hS hl hcat
  have hP := cl_one (hH.1 k i hal)
  rw [show wE g (I k i) (P k i) O k i = _ from he] at hP
  exact va_alen hx hb hK hP 0 t0 rfl hty hv d (kk H locs ls hH hS hl hcat)
theorem g_acmp_ne2 (C : Cx K cc own nL ret rm z) {k i j : Nat} {off : Int} {tgt : Nat} (hi : wAl z k i) (hj : wAl z k j) (d : decode cc pc = .ok (.if_acmp .ne off, 3)) (ht : (pc : Int) + off = (tgt : Int)) (hp : pc + 3 = pc') (kt : ¬ i = j → G K z I P O c n tgt L S) (kf : i = j → G K z I P O c n pc' L S) : G K z I P O c n pc L (.ref ((Kg K).2.2 k j) :: .ref ((Kg K).2.2 k i) :: S) := by
  subst hp
  obtain ⟨p, l, e, R, s, m, args, below, meth, cd, Q, g, A⟩ := K
  intro H locs ls hH hS hl hc
  refine lv_acmp_ne (rx := some (g.2.2 k i)) (ry := some (g.2.2 k j)) C.1 C.2.1 d ht (fun h => kt (fun q => h (by rw [q])) H locs ls hH hS hl hc) (fun h => kf (hH.2 k i k j hi hj (Option.some.inj h)).2 H locs ls hH hS hl hc)
theorem g_acmp_eq2 (C : Cx K cc own nL ret rm z) {k i j : Nat} {off : Int} {tgt : Nat} (hi : wAl z k i) (hj : wAl z k j) (d : decode cc pc = .ok (.if_acmp .eq off, 3)) (ht : (pc : Int) + off = (tgt : Int)) (hp : pc + 3 = pc') (kt : i = j → G K z I P O c n tgt L S) (kf : ¬ i = j → G K z I P O c n pc' L S) : G K z I P O c n pc L (.ref ((Kg K).2.2 k j) :: .ref ((Kg K).2.2 k i) :: S) := by
  subst hp
  obtain ⟨p, l, e, R, s, m, args, below, meth, cd, Q, g, A⟩ := K
  intro H locs ls hH hS hl hc
  refine lv_acmp_eq (rx := some (g.2.2 k i)) (ry := some (g.2.2 k j)) C.1 C.2.1 d ht (fun h => kt (hH.2 k i k j hi hj (Option.some.inj h)).2 H locs ls hH hS hl hc) (fun h => kf (fun q => h (by rw [q])) H locs ls hH hS hl hc)
/-- the end of a method that makes nothing -/
def rQ (g : wG) (z : wZ) (O : wO) (post : Option Value → wI → wP → Prop) : Array Value → State → Outcome → State → Prop := fun _ st oc t => (∃ (v : Option Value) (I' : wI) (P' : wP), oc = .returned v ∧ post v I' P' ∧ wHd g z I' P' O t.heap) ∧ va_F (wA g z) st t
def Rx : wK → wZ → wO → (Option Value → wI → wP → Prop) → Prop
  | (p, l, e, R, s, m, args, below, meth, cd, Q, g, A), z, O, post => Q = MQ below (rQ g z O post) args s 0 0 (wA g z) ∧ A = wA g z
def RT (l : Launch) (y : MethodName) (bc : ByteArray) (mxl : Nat) (ret : Option FieldType) (rm : Room) (g : wG) (z : wZ) (args : List Value) (I : wI) (P : wP) (O : wO) (post : Option Value → wI → wP → Prop) : Prop := Met l y (.code y bc mxl ret :: wAll) rm (va_Pc args (fun U => wHd g z I P O U.heap ∧ va_K g.1 vwCl (wTy g) U)) (rQ g z O post) 0 0 (wA g z)
theorem RT.of {l : Launch} {y : MethodName} {bc : ByteArray} {mxl : Nat} {ret : Option FieldType} {rm : Room} {g : wG} {z : wZ} {args : List Value} {I : wI} {P : wP} {O : wO} {post : Option Value → wI → wP → Prop} {own : String} (ho : y.cls = own) (hy : plainName y.cls = true) (hn : (lg_sl args).length ≤ mxl) (hcat0 : (lv_args 0 args).all (fun q => q.2.category == 1) = true)
    (walk : ∀ K : wK, Cx K bc own mxl ret rm z → Kl K = l → Kg K = g → Rx K z O post → G K z I P O 0 0 0 (lv_args 0 args) []) : RT l y bc mxl ret rm g z args I P O post := by
  have hcat : ∀ q ∈ lv_args 0 args, q.2.category = 1 := fun q hq => by simpa using List.all_eq_true.mp hcat0 q hq
  refine Met.ofW (cc := bc) (maxL := mxl) (ret := ret) hy rfl ?_
  intro p e s m av below meth c s₁ B hml hv
  obtain ⟨rfl, hH, hK⟩ := hv
  rw [lg_entry_eq]
  have hts := atoms_spec (ws := .code y bc mxl ret :: wAll) B.pre
  have hl := lv_entry args hn
  refine walk (p, l, e, rm, s, m, args.toArray, below, meth, c, MQ below (rQ g z O post) args.toArray s 0 0 (wA g z), g, wA g z) ⟨B.exec, B.bytes, B.returns, hml, ?_, fun w hw => hts w (List.mem_cons_of_mem _ hw), B.notSynchronized, hK, rfl, fun k i h => ⟨k, i, h, rfl⟩⟩ rfl rfl ⟨rfl, rfl⟩ s.heap [] _ hH va_S.rf ?_ hcat
  · rw [← ho]; exact findClass_of_methodNamed B.named
  · rw [hml]; exact hl
theorem g_iret {post : Option Value → wI → wP → Prop} {v : Int32} (C : Cx K cc own nL (some .int) rm z) (hR : Rx K z O post) (d : decode cc pc = .ok (.ireturn, 1)) (hq : post (some (.int v)) I P) : G K z I P O 0 0 pc L [.int v] := by
  obtain ⟨p, l, e, R, s, m, args, below, meth, cd, Q, g, A⟩ := K
  obtain ⟨rfl, rfl⟩ := hR
  obtain ⟨hx, hb, hr, -, hown, hts, hlk, hK, -, hA⟩ := C
  intro H locs ls hH hS hl hc
  exact W.iret hx hb hr (fun t ht hW => ⟨⟨_, I, P, rfl, hq, by rw [ht]; exact hH⟩, hS.F ht⟩) hS.2.2 d hlk
theorem g_zret {post : Option Value → wI → wP → Prop} {v : Int32} (C : Cx K cc own nL (some .boolean) rm z) (hR : Rx K z O post) (d : decode cc pc = .ok (.ireturn, 1)) (hv : narrow .boolean (.int v) = .int v) (hq : post (some (.int v)) I P) : G K z I P O 0 0 pc L [.int v] := by
  obtain ⟨p, l, e, R, s, m, args, below, meth, cd, Q, g, A⟩ := K
  obtain ⟨rfl, rfl⟩ := hR
  obtain ⟨hx, hb, hr, -, hown, hts, hlk, hK, -, hA⟩ := C
  intro H locs ls hH hS hl hc
  exact W.zret hx hb hr hv (fun t ht hW => ⟨⟨_, I, P, rfl, hq, by rw [ht]; exact hH⟩, hS.F ht⟩) hS.2.2 d hlk
theorem g_aret {post : Option Value → wI → wP → Prop} {v : Value} {nm : String} (C : Cx K cc own nL (some (.object nm)) rm z) (hR : Rx K z O post) (d : decode cc pc = .ok (.areturn, 1)) (hv : v = .null ∨ ∃ a, v = .ref a) (hq : post (some v) I P) : G K z I P O 0 0 pc L [v] := by
  obtain ⟨p, l, e, R, s, m, args, below, meth, cd, Q, g, A⟩ := K
  obtain ⟨rfl, rfl⟩ := hR
  obtain ⟨hx, hb, hr, -, hown, hts, hlk, hK, -, hA⟩ := C
  intro H locs ls hH hS hl hc
  exact W.aret hx hb hr (Or.inl ⟨_, rfl⟩) hv (fun t ht hW => ⟨⟨_, I, P, rfl, hq, by rw [ht]; exact hH⟩, hS.F ht⟩) hS.2.2 d hlk
theorem g_vret {post : Option Value → wI → wP → Prop} (C : Cx K cc own nL none rm z) (hR : Rx K z O post) (d : decode cc pc = .ok (.return_, 1)) (hq : post none I P) : G K z I P O 0 0 pc L [] := by
  obtain ⟨p, l, e, R, s, m, args, below, meth, cd, Q, g, A⟩ := K
  obtain ⟨rfl, rfl⟩ := hR
  obtain ⟨hx, hb, hr, -, hown, hts, hlk, hK, -, hA⟩ := C
  intro H locs ls hH hS hl hc
  exact W.vret hx hb hr (fun t ht hW => ⟨⟨_, I, P, rfl, hq, by rw [ht]; exact hH⟩, hS.F ht⟩) hS.2.2 d hlk
theorem wV_good {own Cn : String} {index mxl : Nat} {y : MethodName} {bc : ByteArray} {rt : Option FieldType} (h : wV own index Cn y bc mxl rt) : GoodIn wAll (wsV own index Cn y (.code y bc mxl rt :: wAll)) := by
  obtain ⟨h1, h2, h3, h4, h5⟩ := h
  intro w hw
  have hm : w ∈ wAll := by
    unfold wsV at hw
    simp only [List.cons_append, List.nil_append, List.mem_cons] at hw
    rcases hw with rfl | rfl | rfl | rfl | rfl | hw
    · exact h1
    · exact h2
    · exact h3
    · exact h4
    · exact h5
    · exact hw
  exact wAll_self w hm
theorem wS_good {own : String} {index mxl : Nat} {y : MethodName} {bc : ByteArray} {rt : Option FieldType} (h : wS own index y bc mxl rt) : GoodIn wAll (va_wsS own index y (.code y bc mxl rt :: wAll)) := by
  obtain ⟨h1, h2, h3, h5⟩ := h
  intro w hw
  have hm : w ∈ wAll := by
    unfold va_wsS at hw
    simp only [List.cons_append, List.nil_append, List.mem_cons] at hw
    rcases hw with rfl | rfl | rfl | rfl | hw
    · exact h1
    · exact h2
    · exact h3
    · exact h5
    · exact hw
  exact wAll_self w hm
theorem wBlind {g : wG} {z : wZ} {I : wI} {P : wP} {O : wO} {args : List Value} : FrameBlind (va_Pc args (fun U => wHd g z I P O U.heap ∧ va_K g.1 vwCl (wTy g) U)) := fun a U f mk q => by
  obtain ⟨q0, q1, q2⟩ := q
  exact ⟨q0, q1, va_K.moved (u := U) (U := U.calling f mk a) (Vm.Alike.refl U.vm) q2⟩
theorem wA_in {g : wG} {z : wZ} {A : Nat → Prop} (hA : ∀ k i, wAl z k i → A (g.2.2 k i)) : ∀ q, wA g z q → A q := fun q h => by
  obtain ⟨k, i, h1, rfl⟩ := h
  exact hA k i h1
theorem g_run {p : Program} {l : Launch} {e : Env} {R : Room} {s : State} {m : MethodId} {args : Array Value} {below : List Frame} {meth : Method} {cd : Code} {H : Heap} {locs : List Loc} {cells slots : Nat} {Q : State → Prop} {g : wG} {A : Nat → Prop} {z : wZ} {O : wO} {ls : Array Slot} {a : Array Value} {st0 rest : List Value} {pc : Nat} {L : List (Nat × Value)} {post : Option Value → wI → wP → Prop} (hr : va_Run p l e R s m args below meth cd H locs cells slots 0 0 (F0 m pc ls st0) rest (rQ g z O post a) (wA g z)) (hS : va_S A s.heap H locs) (hA : ∀ q, wA g z q → A q) (hl : lv_has ls cd.maxLocals L) (hc : ∀ q ∈ L, q.2.category = 1)
    (kk : ∀ v I' P', post v I' P' → G (p, l, e, R, s, m, args, below, meth, cd, Q, g, A) z I' P' O cells slots (pc + 3) L (v.toList ++ rest)) : W p l e R s m args below meth cd H locs cells slots Q (F0 m pc ls st0) := by
  intro T hT X
  obtain ⟨v, st₀, t, T', L1, h0, X', hL, e1, e2, ⟨⟨v', I', P', hv, hpost, hHd⟩, hz, hk⟩, st⟩ := hr T hT X
  cases hv
  rw [h0] at hz hk
  obtain ⟨t2, a1, b1⟩ := kk v I' P' hpost T'.heap (locs ++ L1) ls (by rw [e1]; exact hHd) ⟨Nat.le_trans hS.1 (by rw [e1]; exact hz), fun q h1 h2 => by
      rw [e1, hk q (Nat.lt_of_lt_of_le h1 hS.1) (fun zz => h2 (hA q zz))]; exact hS.2.1 q h1 h2, fun q hq => by
      rcases List.mem_append.mp hq with h | h
      · exact hS.2.2 q h
      · exact hA _ (hL q h)⟩ hl hc T' rfl X'
  exact ⟨t2, st t2 a1, b1⟩
theorem g_callV (C : Cx K cc own nL ret rm z) {index mxl k i ci N : Nat} {y : MethodName} {bc : ByteArray} {rt : Option FieldType} {rmy : Room} {As S0 : List Value} {fs : List Value} {Cn : String} {T : u_T} {post : Option Value → wI → wP → Prop} (hw : wV own index Cn y bc mxl rt) (hM : RT (Kl K) y bc mxl rt rmy (Kg K) z (.ref ((Kg K).2.2 k i) :: As) I P O post) (d : decode cc pc = .ok (.invokevirtual index, 3)) (hal : wAl z k i) (he : wE (Kg K) (I k i) (P k i) O k i = .inr (ci, fs)) (hc : vwCl[ci]? = some (Cn, T, N))
    (hd : y.cls = Cn ∧ y.cls ≠ "java/lang/invoke/MethodHandle" ∧ y.cls ≠ "java/lang/invoke/VarHandle" ∧ (parseMethodDescriptor y.desc).map (fun d => d.parameters.length) = some As.length) (hroom : (rmy.frames + 1 ≤ rm.frames ∧ 8 + (mxl + 11) + rmy.locals ≤ rm.locals) ∧ rmy.cells = 0 ∧ rmy.slots = 0) (hS0 : S0 = As.reverse ++ .ref ((Kg K).2.2 k i) :: S) (hcat : (S.map fun v => v.category).sum ≤ 8) (hf : c ≤ rm.cells ∧ n ≤ rm.slots) (hp : pc + 3 = pc') (kk : ∀ v I' P', post v I' P' → G K z I' P' O c n pc' L (v.toList ++ S)) : G K z I P O c n pc L S0 := by
  subst hp
  subst hS0
  obtain ⟨p, l, e, R, s, m, args, below, meth, cd, Q, g, A⟩ := K
  obtain ⟨hx, hb, hr, hml, hown, hts, hlk, hK, rfl, hA⟩ := C
  intro H locs ls hH hS hl hcc
  have hP := cl_one (hH.1 k i hal)
  rw [show wE g (I k i) (P k i) O k i = _ from he] at hP
  refine g_run (va_runV (As := As) (rest := S) (nL := nL) ⟨hx, hb, hml, hown, hts⟩ hM (cwV As.length hts (wV_good hw) rfl hroom.2.1 hroom.2.2 hd hroom.1) ⟨wBlind, va_recv hK hP (ci := ci) (q0 := 0) hc rfl, fun U hU hW => ⟨rfl, by rw [hU]; exact hH, va_K.moved hW.alike hK⟩⟩ rfl rfl (hl.1.trans hml) rfl (lv_room hcat) d ⟨hf.1, hf.2⟩) hS (wA_in hA) hl hcc kk
theorem g_callS (C : Cx K cc own nL ret rm z) {index mxl : Nat} {y : MethodName} {bc : ByteArray} {rt : Option FieldType} {rmy : Room} {As S0 : List Value} {post : Option Value → wI → wP → Prop} (hw : wS own index y bc mxl rt) (hM : RT (Kl K) y bc mxl rt rmy (Kg K) z As I P O post) (d : decode cc pc = .ok (.invokestatic index, 3))
    (hd : y.cls = own ∧ y.cls ≠ "java/lang/invoke/MethodHandle" ∧ y.cls ≠ "java/lang/invoke/VarHandle" ∧ (parseMethodDescriptor y.desc).map (fun d => d.parameters.length) = some As.length) (hroom : (rmy.frames + 1 ≤ rm.frames ∧ 8 + (mxl + 11) + rmy.locals ≤ rm.locals) ∧ rmy.cells = 0 ∧ rmy.slots = 0) (hS0 : S0 = As.reverse ++ S) (hcat : (S.map fun v => v.category).sum ≤ 8) (hf : c ≤ rm.cells ∧ n ≤ rm.slots) (hp : pc + 3 = pc') (kk : ∀ v I' P', post v I' P' → G K z I' P' O c n pc' L (v.toList ++ S)) : G K z I P O c n pc L S0 := by
  subst hp
  subst hS0
  obtain ⟨p, l, e, R, s, m, args, below, meth, cd, Q, g, A⟩ := K
  obtain ⟨hx, hb, hr, hml, hown, hts, hlk, hK, rfl, hA⟩ := C
  intro H locs ls hH hS hl hcc
  refine g_run (va_runS (As := As) (rest := S) (nL := nL) ⟨hx, hb, hml, hown, hts⟩ hM (va_cwS As.length hts (wS_good hw) rfl hroom.2.1 hroom.2.2 hd.2 hroom.1) ⟨wBlind, fun U hU hW => ⟨rfl, by rw [hU]; exact hH, va_K.moved hW.alike hK⟩⟩ rfl rfl (hl.1.trans hml) rfl (lv_room hcat) d ⟨hf.1, hf.2⟩) hS (wA_in hA) hl hcc kk

end WRows2
end
section
section WFields
variable {K : wK} {cc : ByteArray} {own : String} {nL : Nat} {ret : Option FieldType} {rm : Room} {z : wZ} {I : wI} {P : wP} {O : wO} {c n pc pc' : Nat} {L : List (Nat × Value)} {S : List Value}
theorem al13 {z : wZ} {f : Nat} (h : Nat.blt 0 (wML f) = true) : wAl z 13 f := Nat.le_of_ble_eq_true h
theorem f_X1_9 (C : Cx K cc RX1 nL ret rm z) {i : Nat} (d : decode cc pc = .ok (.getfield 9, 3)) (hal : wAl z 1 i) (hp : pc + 3 = pc') (kk : G K z I P O c n pc' L (.int (I 1 i 0) :: S)) : G K z I P O c n pc L (.ref ((Kg K).2.2 1 i) :: S) := g_getf (f := 0) C d hal rfl rfl iX1 (Nat.le_of_ble_eq_true rfl) fl_X1_9 rfl rfl hp kk
theorem p_X1_9 (C : Cx K cc RX1 nL ret rm z) {i : Nat} {x : Int32} (d : decode cc pc = .ok (.putfield 9, 3)) (hal : wAl z 1 i) (hp : pc + 3 = pc') (kk : G K z (upI I 1 i 0 x) P O c n pc' L S) : G K z I P O c n pc L (.int x :: .ref ((Kg K).2.2 1 i) :: S) := g_putf (f := 0) C d hal rfl rfl iX1 tyX1_ok nmX1 (Nat.le_of_ble_eq_true rfl) fl_X1_9 rfl rfl (ty := .int) (tyX1_ok 0 (by decide)) rfl rfl (Nat.le_of_ble_eq_true rfl) rfl hp kk
theorem f_X3_61 (C : Cx K cc RX3 nL ret rm z) {i : Nat} (d : decode cc pc = .ok (.getfield 61, 3)) (hal : wAl z 1 i) (hp : pc + 3 = pc') (kk : G K z I P O c n pc' L (.int (I 1 i 0) :: S)) : G K z I P O c n pc L (.ref ((Kg K).2.2 1 i) :: S) := g_getf (f := 0) C d hal rfl rfl iX1 (Nat.le_of_ble_eq_true rfl) fl_X3_61 rfl rfl hp kk
theorem p_X3_61 (C : Cx K cc RX3 nL ret rm z) {i : Nat} {x : Int32} (d : decode cc pc = .ok (.putfield 61, 3)) (hal : wAl z 1 i) (hp : pc + 3 = pc') (kk : G K z (upI I 1 i 0 x) P O c n pc' L S) : G K z I P O c n pc L (.int x :: .ref ((Kg K).2.2 1 i) :: S) := g_putf (f := 0) C d hal rfl rfl iX1 tyX1_ok nmX1 (Nat.le_of_ble_eq_true rfl) fl_X3_61 rfl rfl (ty := .int) (tyX1_ok 0 (by decide)) rfl rfl (Nat.le_of_ble_eq_true rfl) rfl hp kk
theorem f_X1_15 (C : Cx K cc RX1 nL ret rm z) {i : Nat} (d : decode cc pc = .ok (.getfield 15, 3)) (hal : wAl z 1 i) (hp : pc + 3 = pc') (kk : G K z I P O c n pc' L (.int (I 1 i 1) :: S)) : G K z I P O c n pc L (.ref ((Kg K).2.2 1 i) :: S) := g_getf (f := 1) C d hal rfl rfl iX1 (Nat.le_of_ble_eq_true rfl) fl_X1_15 rfl rfl hp kk
theorem p_X1_15 (C : Cx K cc RX1 nL ret rm z) {i : Nat} {x : Int32} (d : decode cc pc = .ok (.putfield 15, 3)) (hal : wAl z 1 i) (hp : pc + 3 = pc') (kk : G K z (upI I 1 i 1 x) P O c n pc' L S) : G K z I P O c n pc L (.int x :: .ref ((Kg K).2.2 1 i) :: S) := g_putf (f := 1) C d hal rfl rfl iX1 tyX1_ok nmX1 (Nat.le_of_ble_eq_true rfl) fl_X1_15 rfl rfl (ty := .int) (tyX1_ok 1 (by decide)) rfl rfl (Nat.le_of_ble_eq_true rfl) rfl hp kk
theorem f_X3_58 (C : Cx K cc RX3 nL ret rm z) {i : Nat} (d : decode cc pc = .ok (.getfield 58, 3)) (hal : wAl z 1 i) (hp : pc + 3 = pc') (kk : G K z I P O c n pc' L (.int (I 1 i 1) :: S)) : G K z I P O c n pc L (.ref ((Kg K).2.2 1 i) :: S) := g_getf (f := 1) C d hal rfl rfl iX1 (Nat.le_of_ble_eq_true rfl) fl_X3_58 rfl rfl hp kk
theorem p_X3_58 (C : Cx K cc RX3 nL ret rm z) {i : Nat} {x : Int32} (d : decode cc pc = .ok (.putfield 58, 3)) (hal : wAl z 1 i) (hp : pc + 3 = pc') (kk : G K z (upI I 1 i 1 x) P O c n pc' L S) : G K z I P O c n pc L (.int x :: .ref ((Kg K).2.2 1 i) :: S) := g_putf (f := 1) C d hal rfl rfl iX1 tyX1_ok nmX1 (Nat.le_of_ble_eq_true rfl) fl_X3_58 rfl rfl (ty := .int) (tyX1_ok 1 (by decide)) rfl rfl (Nat.le_of_ble_eq_true rfl) rfl hp kk
theorem f_X1_18 (C : Cx K cc RX1 nL ret rm z) {i : Nat} (d : decode cc pc = .ok (.getfield 18, 3)) (hal : wAl z 1 i) (hp : pc + 3 = pc') (kk : G K z I P O c n pc' L (.ref ((Kg K).2.2 8 i) :: S)) : G K z I P O c n pc L (.ref ((Kg K).2.2 1 i) :: S) := g_getf (f := 2) C d hal rfl rfl iX1 (Nat.le_of_ble_eq_true rfl) fl_X1_18 rfl rfl hp kk
theorem f_X1_24 (C : Cx K cc RX1 nL ret rm z) {i : Nat} (d : decode cc pc = .ok (.getfield 24, 3)) (hal : wAl z 1 i) (hp : pc + 3 = pc') (kk : G K z I P O c n pc' L (.ref ((Kg K).2.2 9 i) :: S)) : G K z I P O c n pc L (.ref ((Kg K).2.2 1 i) :: S) := g_getf (f := 3) C d hal rfl rfl iX1 (Nat.le_of_ble_eq_true rfl) fl_X1_24 rfl rfl hp kk
theorem f_X1_28 (C : Cx K cc RX1 nL ret rm z) {i : Nat} (d : decode cc pc = .ok (.getfield 28, 3)) (hal : wAl z 1 i) (hp : pc + 3 = pc') (kk : G K z I P O c n pc' L (.ref ((Kg K).2.2 10 i) :: S)) : G K z I P O c n pc L (.ref ((Kg K).2.2 1 i) :: S) := g_getf (f := 4) C d hal rfl rfl iX1 (Nat.le_of_ble_eq_true rfl) fl_X1_28 rfl rfl hp kk
theorem f_X3_11 (C : Cx K cc RX3 nL ret rm z) {i : Nat} (d : decode cc pc = .ok (.getfield 11, 3)) (hal : wAl z 0 i) (hp : pc + 3 = pc') (kk : G K z I P O c n pc' L (.ref ((Kg K).2.2 4 0) :: S)) : G K z I P O c n pc L (.ref ((Kg K).2.2 0 i) :: S) := g_getf (f := 0) C d hal rfl rfl iX3 (Nat.le_of_ble_eq_true rfl) fl_X3_11 rfl rfl hp kk
theorem f_X3_15 (C : Cx K cc RX3 nL ret rm z) {i : Nat} (d : decode cc pc = .ok (.getfield 15, 3)) (hal : wAl z 0 i) (hp : pc + 3 = pc') (kk : G K z I P O c n pc' L (.ref ((Kg K).2.2 5 0) :: S)) : G K z I P O c n pc L (.ref ((Kg K).2.2 0 i) :: S) := g_getf (f := 1) C d hal rfl rfl iX3 (Nat.le_of_ble_eq_true rfl) fl_X3_15 rfl rfl hp kk
theorem f_X3_21 (C : Cx K cc RX3 nL ret rm z) {i : Nat} (d : decode cc pc = .ok (.getfield 21, 3)) (hal : wAl z 0 i) (hp : pc + 3 = pc') (kk : G K z I P O c n pc' L (.ref ((Kg K).2.2 6 0) :: S)) : G K z I P O c n pc L (.ref ((Kg K).2.2 0 i) :: S) := g_getf (f := 2) C d hal rfl rfl iX3 (Nat.le_of_ble_eq_true rfl) fl_X3_21 rfl rfl hp kk
theorem f_X3_27 (C : Cx K cc RX3 nL ret rm z) {i : Nat} (d : decode cc pc = .ok (.getfield 27, 3)) (hal : wAl z 0 i) (hp : pc + 3 = pc') (kk : G K z I P O c n pc' L (.ref ((Kg K).2.2 7 0) :: S)) : G K z I P O c n pc L (.ref ((Kg K).2.2 0 i) :: S) := g_getf (f := 3) C d hal rfl rfl iX3 (Nat.le_of_ble_eq_true rfl) fl_X3_27 rfl rfl hp kk
theorem f_X3_31 (C : Cx K cc RX3 nL ret rm z) {i : Nat} (d : decode cc pc = .ok (.getfield 31, 3)) (hal : wAl z 0 i) (hp : pc + 3 = pc') (kk : G K z I P O c n pc' L (.int (I 0 i 4) :: S)) : G K z I P O c n pc L (.ref ((Kg K).2.2 0 i) :: S) := g_getf (f := 4) C d hal rfl rfl iX3 (Nat.le_of_ble_eq_true rfl) fl_X3_31 rfl rfl hp kk
theorem p_X3_31 (C : Cx K cc RX3 nL ret rm z) {i : Nat} {x : Int32} (d : decode cc pc = .ok (.putfield 31, 3)) (hal : wAl z 0 i) (hp : pc + 3 = pc') (kk : G K z (upI I 0 i 4 x) P O c n pc' L S) : G K z I P O c n pc L (.int x :: .ref ((Kg K).2.2 0 i) :: S) := g_putf (f := 4) C d hal rfl rfl iX3 tyX3_ok nmX3 (Nat.le_of_ble_eq_true rfl) fl_X3_31 rfl rfl (ty := .int) (tyX3_ok 4 (by decide)) rfl rfl (Nat.le_of_ble_eq_true rfl) rfl hp kk
theorem f_X3_35 (C : Cx K cc RX3 nL ret rm z) {i : Nat} (d : decode cc pc = .ok (.getfield 35, 3)) (hal : wAl z 0 i) (hp : pc + 3 = pc') (kk : G K z I P O c n pc' L (.int (I 0 i 5) :: S)) : G K z I P O c n pc L (.ref ((Kg K).2.2 0 i) :: S) := g_getf (f := 5) C d hal rfl rfl iX3 (Nat.le_of_ble_eq_true rfl) fl_X3_35 rfl rfl hp kk
theorem p_X3_35 (C : Cx K cc RX3 nL ret rm z) {i : Nat} {x : Int32} (d : decode cc pc = .ok (.putfield 35, 3)) (hal : wAl z 0 i) (hp : pc + 3 = pc') (kk : G K z (upI I 0 i 5 x) P O c n pc' L S) : G K z I P O c n pc L (.int x :: .ref ((Kg K).2.2 0 i) :: S) := g_putf (f := 5) C d hal rfl rfl iX3 tyX3_ok nmX3 (Nat.le_of_ble_eq_true rfl) fl_X3_35 rfl rfl (ty := .int) (tyX3_ok 5 (by decide)) rfl rfl (Nat.le_of_ble_eq_true rfl) rfl hp kk
theorem f_X3_38 (C : Cx K cc RX3 nL ret rm z) {i : Nat} (d : decode cc pc = .ok (.getfield 38, 3)) (hal : wAl z 0 i) (hp : pc + 3 = pc') (kk : G K z I P O c n pc' L (.int (I 0 i 6) :: S)) : G K z I P O c n pc L (.ref ((Kg K).2.2 0 i) :: S) := g_getf (f := 6) C d hal rfl rfl iX3 (Nat.le_of_ble_eq_true rfl) fl_X3_38 rfl rfl hp kk
theorem p_X3_38 (C : Cx K cc RX3 nL ret rm z) {i : Nat} {x : Int32} (d : decode cc pc = .ok (.putfield 38, 3)) (hal : wAl z 0 i) (hp : pc + 3 = pc') (kk : G K z (upI I 0 i 6 x) P O c n pc' L S) : G K z I P O c n pc L (.int x :: .ref ((Kg K).2.2 0 i) :: S) := g_putf (f := 6) C d hal rfl rfl iX3 tyX3_ok nmX3 (Nat.le_of_ble_eq_true rfl) fl_X3_38 rfl rfl (ty := .int) (tyX3_ok 6 (by decide)) rfl rfl (Nat.le_of_ble_eq_true rfl) rfl hp kk
theorem f_X2_18 (C : Cx K cc RX2 nL ret rm z) {i : Nat} (d : decode cc pc = .ok (.getfield 18, 3)) (hal : wAl z 2 i) (hp : pc + 3 = pc') (kk : G K z I P O c n pc' L (.int (I 2 i 0) :: S)) : G K z I P O c n pc L (.ref ((Kg K).2.2 2 i) :: S) := g_getf (f := 0) C d hal rfl rfl iX2 (Nat.le_of_ble_eq_true rfl) fl_X2_18 rfl rfl hp kk
theorem f_X3_92 (C : Cx K cc RX3 nL ret rm z) {i : Nat} (d : decode cc pc = .ok (.getfield 92, 3)) (hal : wAl z 2 i) (hp : pc + 3 = pc') (kk : G K z I P O c n pc' L (.int (I 2 i 0) :: S)) : G K z I P O c n pc L (.ref ((Kg K).2.2 2 i) :: S) := g_getf (f := 0) C d hal rfl rfl iX2 (Nat.le_of_ble_eq_true rfl) fl_X3_92 rfl rfl hp kk
theorem f_X2_21 (C : Cx K cc RX2 nL ret rm z) {i : Nat} (d : decode cc pc = .ok (.getfield 21, 3)) (hal : wAl z 2 i) (hp : pc + 3 = pc') (kk : G K z I P O c n pc' L (.int (I 2 i 1) :: S)) : G K z I P O c n pc L (.ref ((Kg K).2.2 2 i) :: S) := g_getf (f := 1) C d hal rfl rfl iX2 (Nat.le_of_ble_eq_true rfl) fl_X2_21 rfl rfl hp kk
theorem f_X0_45 (C : Cx K cc RX0 nL ret rm z) {i : Nat} (d : decode cc pc = .ok (.getfield 45, 3)) (hal : wAl z 2 i) (hp : pc + 3 = pc') (kk : G K z I P O c n pc' L (.int (I 2 i 1) :: S)) : G K z I P O c n pc L (.ref ((Kg K).2.2 2 i) :: S) := g_getf (f := 1) C d hal rfl rfl iX2 (Nat.le_of_ble_eq_true rfl) fl_X0_45 rfl rfl hp kk
theorem f_X3_224 (C : Cx K cc RX3 nL ret rm z) {i : Nat} (d : decode cc pc = .ok (.getfield 224, 3)) (hal : wAl z 2 i) (hp : pc + 3 = pc') (kk : G K z I P O c n pc' L (.int (I 2 i 1) :: S)) : G K z I P O c n pc L (.ref ((Kg K).2.2 2 i) :: S) := g_getf (f := 1) C d hal rfl rfl iX2 (Nat.le_of_ble_eq_true rfl) fl_X3_224 rfl rfl hp kk
theorem f_X2_24 (C : Cx K cc RX2 nL ret rm z) {i : Nat} (d : decode cc pc = .ok (.getfield 24, 3)) (hal : wAl z 2 i) (hp : pc + 3 = pc') (kk : G K z I P O c n pc' L (.int (I 2 i 2) :: S)) : G K z I P O c n pc L (.ref ((Kg K).2.2 2 i) :: S) := g_getf (f := 2) C d hal rfl rfl iX2 (Nat.le_of_ble_eq_true rfl) fl_X2_24 rfl rfl hp kk
theorem f_X0_58 (C : Cx K cc RX0 nL ret rm z) {i : Nat} (d : decode cc pc = .ok (.getfield 58, 3)) (hal : wAl z 2 i) (hp : pc + 3 = pc') (kk : G K z I P O c n pc' L (.int (I 2 i 2) :: S)) : G K z I P O c n pc L (.ref ((Kg K).2.2 2 i) :: S) := g_getf (f := 2) C d hal rfl rfl iX2 (Nat.le_of_ble_eq_true rfl) fl_X0_58 rfl rfl hp kk
theorem f_X3_227 (C : Cx K cc RX3 nL ret rm z) {i : Nat} (d : decode cc pc = .ok (.getfield 227, 3)) (hal : wAl z 2 i) (hp : pc + 3 = pc') (kk : G K z I P O c n pc' L (.int (I 2 i 2) :: S)) : G K z I P O c n pc L (.ref ((Kg K).2.2 2 i) :: S) := g_getf (f := 2) C d hal rfl rfl iX2 (Nat.le_of_ble_eq_true rfl) fl_X3_227 rfl rfl hp kk
theorem f_X2_27 (C : Cx K cc RX2 nL ret rm z) {i : Nat} (d : decode cc pc = .ok (.getfield 27, 3)) (hal : wAl z 2 i) (hp : pc + 3 = pc') (kk : G K z I P O c n pc' L (.int (I 2 i 3) :: S)) : G K z I P O c n pc L (.ref ((Kg K).2.2 2 i) :: S) := g_getf (f := 3) C d hal rfl rfl iX2 (Nat.le_of_ble_eq_true rfl) fl_X2_27 rfl rfl hp kk
theorem f_X0_61 (C : Cx K cc RX0 nL ret rm z) {i : Nat} (d : decode cc pc = .ok (.getfield 61, 3)) (hal : wAl z 2 i) (hp : pc + 3 = pc') (kk : G K z I P O c n pc' L (.int (I 2 i 3) :: S)) : G K z I P O c n pc L (.ref ((Kg K).2.2 2 i) :: S) := g_getf (f := 3) C d hal rfl rfl iX2 (Nat.le_of_ble_eq_true rfl) fl_X0_61 rfl rfl hp kk
theorem f_X3_230 (C : Cx K cc RX3 nL ret rm z) {i : Nat} (d : decode cc pc = .ok (.getfield 230, 3)) (hal : wAl z 2 i) (hp : pc + 3 = pc') (kk : G K z I P O c n pc' L (.int (I 2 i 3) :: S)) : G K z I P O c n pc L (.ref ((Kg K).2.2 2 i) :: S) := g_getf (f := 3) C d hal rfl rfl iX2 (Nat.le_of_ble_eq_true rfl) fl_X3_230 rfl rfl hp kk
theorem f_X2_30 (C : Cx K cc RX2 nL ret rm z) {i : Nat} (d : decode cc pc = .ok (.getfield 30, 3)) (hal : wAl z 2 i) (hp : pc + 3 = pc') (kk : G K z I P O c n pc' L (.int (I 2 i 4) :: S)) : G K z I P O c n pc L (.ref ((Kg K).2.2 2 i) :: S) := g_getf (f := 4) C d hal rfl rfl iX2 (Nat.le_of_ble_eq_true rfl) fl_X2_30 rfl rfl hp kk
theorem f_X3_233 (C : Cx K cc RX3 nL ret rm z) {i : Nat} (d : decode cc pc = .ok (.getfield 233, 3)) (hal : wAl z 2 i) (hp : pc + 3 = pc') (kk : G K z I P O c n pc' L (.int (I 2 i 4) :: S)) : G K z I P O c n pc L (.ref ((Kg K).2.2 2 i) :: S) := g_getf (f := 4) C d hal rfl rfl iX2 (Nat.le_of_ble_eq_true rfl) fl_X3_233 rfl rfl hp kk
theorem f_X2_9 (C : Cx K cc RX2 nL ret rm z) {i : Nat} (d : decode cc pc = .ok (.getfield 9, 3)) (hal : wAl z 2 i) (hp : pc + 3 = pc') (kk : G K z I P O c n pc' L (.int (I 2 i 5) :: S)) : G K z I P O c n pc L (.ref ((Kg K).2.2 2 i) :: S) := g_getf (f := 5) C d hal rfl rfl iX2 (Nat.le_of_ble_eq_true rfl) fl_X2_9 rfl rfl hp kk
theorem p_X2_9 (C : Cx K cc RX2 nL ret rm z) {i : Nat} {x : Int32} (d : decode cc pc = .ok (.putfield 9, 3)) (hal : wAl z 2 i) (hp : pc + 3 = pc') (kk : G K z (upI I 2 i 5 x) P O c n pc' L S) : G K z I P O c n pc L (.int x :: .ref ((Kg K).2.2 2 i) :: S) := g_putf (f := 5) C d hal rfl rfl iX2 tyX2_ok nmX2 (Nat.le_of_ble_eq_true rfl) fl_X2_9 rfl rfl (ty := .int) (tyX2_ok 5 (by decide)) rfl rfl (Nat.le_of_ble_eq_true rfl) rfl hp kk
theorem f_X3_103 (C : Cx K cc RX3 nL ret rm z) {i : Nat} (d : decode cc pc = .ok (.getfield 103, 3)) (hal : wAl z 2 i) (hp : pc + 3 = pc') (kk : G K z I P O c n pc' L (.int (I 2 i 5) :: S)) : G K z I P O c n pc L (.ref ((Kg K).2.2 2 i) :: S) := g_getf (f := 5) C d hal rfl rfl iX2 (Nat.le_of_ble_eq_true rfl) fl_X3_103 rfl rfl hp kk
theorem p_X3_103 (C : Cx K cc RX3 nL ret rm z) {i : Nat} {x : Int32} (d : decode cc pc = .ok (.putfield 103, 3)) (hal : wAl z 2 i) (hp : pc + 3 = pc') (kk : G K z (upI I 2 i 5 x) P O c n pc' L S) : G K z I P O c n pc L (.int x :: .ref ((Kg K).2.2 2 i) :: S) := g_putf (f := 5) C d hal rfl rfl iX2 tyX2_ok nmX2 (Nat.le_of_ble_eq_true rfl) fl_X3_103 rfl rfl (ty := .int) (tyX2_ok 5 (by decide)) rfl rfl (Nat.le_of_ble_eq_true rfl) rfl hp kk
theorem f_X0_68 (C : Cx K cc RX0 nL ret rm z) {i : Nat} (d : decode cc pc = .ok (.getfield 68, 3)) (hal : wAl z 2 i) (hp : pc + 3 = pc') (kk : G K z I P O c n pc' L (.int (I 2 i 5) :: S)) : G K z I P O c n pc L (.ref ((Kg K).2.2 2 i) :: S) := g_getf (f := 5) C d hal rfl rfl iX2 (Nat.le_of_ble_eq_true rfl) fl_X0_68 rfl rfl hp kk
theorem p_X0_68 (C : Cx K cc RX0 nL ret rm z) {i : Nat} {x : Int32} (d : decode cc pc = .ok (.putfield 68, 3)) (hal : wAl z 2 i) (hp : pc + 3 = pc') (kk : G K z (upI I 2 i 5 x) P O c n pc' L S) : G K z I P O c n pc L (.int x :: .ref ((Kg K).2.2 2 i) :: S) := g_putf (f := 5) C d hal rfl rfl iX2 tyX2_ok nmX2 (Nat.le_of_ble_eq_true rfl) fl_X0_68 rfl rfl (ty := .int) (tyX2_ok 5 (by decide)) rfl rfl (Nat.le_of_ble_eq_true rfl) rfl hp kk
theorem f_X2_15 (C : Cx K cc RX2 nL ret rm z) {i : Nat} (d : decode cc pc = .ok (.getfield 15, 3)) (hal : wAl z 2 i) (hp : pc + 3 = pc') (kk : G K z I P O c n pc' L (.int (I 2 i 6) :: S)) : G K z I P O c n pc L (.ref ((Kg K).2.2 2 i) :: S) := g_getf (f := 6) C d hal rfl rfl iX2 (Nat.le_of_ble_eq_true rfl) fl_X2_15 rfl rfl hp kk
theorem p_X2_15 (C : Cx K cc RX2 nL ret rm z) {i : Nat} {x : Int32} (d : decode cc pc = .ok (.putfield 15, 3)) (hal : wAl z 2 i) (hp : pc + 3 = pc') (kk : G K z (upI I 2 i 6 x) P O c n pc' L S) : G K z I P O c n pc L (.int x :: .ref ((Kg K).2.2 2 i) :: S) := g_putf (f := 6) C d hal rfl rfl iX2 tyX2_ok nmX2 (Nat.le_of_ble_eq_true rfl) fl_X2_15 rfl rfl (ty := .int) (tyX2_ok 6 (by decide)) rfl rfl (Nat.le_of_ble_eq_true rfl) rfl hp kk
theorem f_X3_85 (C : Cx K cc RX3 nL ret rm z) {i : Nat} (d : decode cc pc = .ok (.getfield 85, 3)) (hal : wAl z 2 i) (hp : pc + 3 = pc') (kk : G K z I P O c n pc' L (.int (I 2 i 6) :: S)) : G K z I P O c n pc L (.ref ((Kg K).2.2 2 i) :: S) := g_getf (f := 6) C d hal rfl rfl iX2 (Nat.le_of_ble_eq_true rfl) fl_X3_85 rfl rfl hp kk
theorem p_X3_85 (C : Cx K cc RX3 nL ret rm z) {i : Nat} {x : Int32} (d : decode cc pc = .ok (.putfield 85, 3)) (hal : wAl z 2 i) (hp : pc + 3 = pc') (kk : G K z (upI I 2 i 6 x) P O c n pc' L S) : G K z I P O c n pc L (.int x :: .ref ((Kg K).2.2 2 i) :: S) := g_putf (f := 6) C d hal rfl rfl iX2 tyX2_ok nmX2 (Nat.le_of_ble_eq_true rfl) fl_X3_85 rfl rfl (ty := .int) (tyX2_ok 6 (by decide)) rfl rfl (Nat.le_of_ble_eq_true rfl) rfl hp kk
theorem f_X1_39 (C : Cx K cc RX1 nL ret rm z) {i : Nat} (d : decode cc pc = .ok (.getfield 39, 3)) (hal : wAl z 2 i) (hp : pc + 3 = pc') (kk : G K z I P O c n pc' L (.int (I 2 i 6) :: S)) : G K z I P O c n pc L (.ref ((Kg K).2.2 2 i) :: S) := g_getf (f := 6) C d hal rfl rfl iX2 (Nat.le_of_ble_eq_true rfl) fl_X1_39 rfl rfl hp kk
theorem p_X1_39 (C : Cx K cc RX1 nL ret rm z) {i : Nat} {x : Int32} (d : decode cc pc = .ok (.putfield 39, 3)) (hal : wAl z 2 i) (hp : pc + 3 = pc') (kk : G K z (upI I 2 i 6 x) P O c n pc' L S) : G K z I P O c n pc L (.int x :: .ref ((Kg K).2.2 2 i) :: S) := g_putf (f := 6) C d hal rfl rfl iX2 tyX2_ok nmX2 (Nat.le_of_ble_eq_true rfl) fl_X1_39 rfl rfl (ty := .int) (tyX2_ok 6 (by decide)) rfl rfl (Nat.le_of_ble_eq_true rfl) rfl hp kk
theorem f_X2_33 (C : Cx K cc RX2 nL ret rm z) {i : Nat} (d : decode cc pc = .ok (.getfield 33, 3)) (hal : wAl z 2 i) (hp : pc + 3 = pc') (kk : G K z I P O c n pc' L (.int (I 2 i 7) :: S)) : G K z I P O c n pc L (.ref ((Kg K).2.2 2 i) :: S) := g_getf (f := 7) C d hal rfl rfl iX2 (Nat.le_of_ble_eq_true rfl) fl_X2_33 rfl rfl hp kk
theorem p_X2_33 (C : Cx K cc RX2 nL ret rm z) {i : Nat} {x : Int32} (d : decode cc pc = .ok (.putfield 33, 3)) (hal : wAl z 2 i) (hp : pc + 3 = pc') (kk : G K z (upI I 2 i 7 x) P O c n pc' L S) : G K z I P O c n pc L (.int x :: .ref ((Kg K).2.2 2 i) :: S) := g_putf (f := 7) C d hal rfl rfl iX2 tyX2_ok nmX2 (Nat.le_of_ble_eq_true rfl) fl_X2_33 rfl rfl (ty := .int) (tyX2_ok 7 (by decide)) rfl rfl (Nat.le_of_ble_eq_true rfl) rfl hp kk
theorem f_X3_116 (C : Cx K cc RX3 nL ret rm z) {i : Nat} (d : decode cc pc = .ok (.getfield 116, 3)) (hal : wAl z 2 i) (hp : pc + 3 = pc') (kk : G K z I P O c n pc' L (.int (I 2 i 7) :: S)) : G K z I P O c n pc L (.ref ((Kg K).2.2 2 i) :: S) := g_getf (f := 7) C d hal rfl rfl iX2 (Nat.le_of_ble_eq_true rfl) fl_X3_116 rfl rfl hp kk
theorem p_X3_116 (C : Cx K cc RX3 nL ret rm z) {i : Nat} {x : Int32} (d : decode cc pc = .ok (.putfield 116, 3)) (hal : wAl z 2 i) (hp : pc + 3 = pc') (kk : G K z (upI I 2 i 7 x) P O c n pc' L S) : G K z I P O c n pc L (.int x :: .ref ((Kg K).2.2 2 i) :: S) := g_putf (f := 7) C d hal rfl rfl iX2 tyX2_ok nmX2 (Nat.le_of_ble_eq_true rfl) fl_X3_116 rfl rfl (ty := .int) (tyX2_ok 7 (by decide)) rfl rfl (Nat.le_of_ble_eq_true rfl) rfl hp kk
theorem f_X0_35 (C : Cx K cc RX0 nL ret rm z) {i : Nat} (d : decode cc pc = .ok (.getfield 35, 3)) (hal : wAl z 3 i) (hp : pc + 3 = pc') (kk : G K z I P O c n pc' L (.int (I 3 i 0) :: S)) : G K z I P O c n pc L (.ref ((Kg K).2.2 3 i) :: S) := g_getf (f := 0) C d hal rfl rfl iX0 (Nat.le_of_ble_eq_true rfl) fl_X0_35 rfl rfl hp kk
theorem f_X3_148 (C : Cx K cc RX3 nL ret rm z) {i : Nat} (d : decode cc pc = .ok (.getfield 148, 3)) (hal : wAl z 3 i) (hp : pc + 3 = pc') (kk : G K z I P O c n pc' L (.int (I 3 i 0) :: S)) : G K z I P O c n pc L (.ref ((Kg K).2.2 3 i) :: S) := g_getf (f := 0) C d hal rfl rfl iX0 (Nat.le_of_ble_eq_true rfl) fl_X3_148 rfl rfl hp kk
theorem f_X0_38 (C : Cx K cc RX0 nL ret rm z) {i : Nat} {m : Nat} (hm : P 3 i 1 = some m) (d : decode cc pc = .ok (.getfield 38, 3)) (hal : wAl z 3 i) (hp : pc + 3 = pc') (kk : G K z I P O c n pc' L (.ref ((Kg K).2.2 2 m) :: S)) : G K z I P O c n pc L (.ref ((Kg K).2.2 3 i) :: S) := g_getf (f := 1) C d hal rfl rfl iX0 (Nat.le_of_ble_eq_true rfl) fl_X0_38 rfl (by rw [hm]; rfl) hp kk
theorem f_X3_161 (C : Cx K cc RX3 nL ret rm z) {i : Nat} {m : Nat} (hm : P 3 i 1 = some m) (d : decode cc pc = .ok (.getfield 161, 3)) (hal : wAl z 3 i) (hp : pc + 3 = pc') (kk : G K z I P O c n pc' L (.ref ((Kg K).2.2 2 m) :: S)) : G K z I P O c n pc L (.ref ((Kg K).2.2 3 i) :: S) := g_getf (f := 1) C d hal rfl rfl iX0 (Nat.le_of_ble_eq_true rfl) fl_X3_161 rfl (by rw [hm]; rfl) hp kk
theorem f_X0_42 (C : Cx K cc RX0 nL ret rm z) {i : Nat} (d : decode cc pc = .ok (.getfield 42, 3)) (hal : wAl z 3 i) (hp : pc + 3 = pc') (kk : G K z I P O c n pc' L (.int (I 3 i 2) :: S)) : G K z I P O c n pc L (.ref ((Kg K).2.2 3 i) :: S) := g_getf (f := 2) C d hal rfl rfl iX0 (Nat.le_of_ble_eq_true rfl) fl_X0_42 rfl rfl hp kk
theorem f_X3_167 (C : Cx K cc RX3 nL ret rm z) {i : Nat} (d : decode cc pc = .ok (.getfield 167, 3)) (hal : wAl z 3 i) (hp : pc + 3 = pc') (kk : G K z I P O c n pc' L (.int (I 3 i 2) :: S)) : G K z I P O c n pc L (.ref ((Kg K).2.2 3 i) :: S) := g_getf (f := 2) C d hal rfl rfl iX0 (Nat.le_of_ble_eq_true rfl) fl_X3_167 rfl rfl hp kk
theorem f_X0_9 (C : Cx K cc RX0 nL ret rm z) {i : Nat} (d : decode cc pc = .ok (.getfield 9, 3)) (hal : wAl z 3 i) (hp : pc + 3 = pc') (kk : G K z I P O c n pc' L (.ref ((Kg K).2.2 11 i) :: S)) : G K z I P O c n pc L (.ref ((Kg K).2.2 3 i) :: S) := g_getf (f := 3) C d hal rfl rfl iX0 (Nat.le_of_ble_eq_true rfl) fl_X0_9 rfl rfl hp kk
theorem f_X3_268 (C : Cx K cc RX3 nL ret rm z) {i : Nat} (d : decode cc pc = .ok (.getfield 268, 3)) (hal : wAl z 3 i) (hp : pc + 3 = pc') (kk : G K z I P O c n pc' L (.ref ((Kg K).2.2 11 i) :: S)) : G K z I P O c n pc L (.ref ((Kg K).2.2 3 i) :: S) := g_getf (f := 3) C d hal rfl rfl iX0 (Nat.le_of_ble_eq_true rfl) fl_X3_268 rfl rfl hp kk
theorem f_X0_15 (C : Cx K cc RX0 nL ret rm z) {i : Nat} (d : decode cc pc = .ok (.getfield 15, 3)) (hal : wAl z 3 i) (hp : pc + 3 = pc') (kk : G K z I P O c n pc' L (.int (I 3 i 4) :: S)) : G K z I P O c n pc L (.ref ((Kg K).2.2 3 i) :: S) := g_getf (f := 4) C d hal rfl rfl iX0 (Nat.le_of_ble_eq_true rfl) fl_X0_15 rfl rfl hp kk
theorem p_X0_15 (C : Cx K cc RX0 nL ret rm z) {i : Nat} {x : Int32} (d : decode cc pc = .ok (.putfield 15, 3)) (hal : wAl z 3 i) (hp : pc + 3 = pc') (kk : G K z (upI I 3 i 4 x) P O c n pc' L S) : G K z I P O c n pc L (.int x :: .ref ((Kg K).2.2 3 i) :: S) := g_putf (f := 4) C d hal rfl rfl iX0 tyX0_ok nmX0 (Nat.le_of_ble_eq_true rfl) fl_X0_15 rfl rfl (ty := .int) (tyX0_ok 4 (by decide)) rfl rfl (Nat.le_of_ble_eq_true rfl) rfl hp kk
theorem f_X3_178 (C : Cx K cc RX3 nL ret rm z) {i : Nat} (d : decode cc pc = .ok (.getfield 178, 3)) (hal : wAl z 3 i) (hp : pc + 3 = pc') (kk : G K z I P O c n pc' L (.int (I 3 i 4) :: S)) : G K z I P O c n pc L (.ref ((Kg K).2.2 3 i) :: S) := g_getf (f := 4) C d hal rfl rfl iX0 (Nat.le_of_ble_eq_true rfl) fl_X3_178 rfl rfl hp kk
theorem p_X3_178 (C : Cx K cc RX3 nL ret rm z) {i : Nat} {x : Int32} (d : decode cc pc = .ok (.putfield 178, 3)) (hal : wAl z 3 i) (hp : pc + 3 = pc') (kk : G K z (upI I 3 i 4 x) P O c n pc' L S) : G K z I P O c n pc L (.int x :: .ref ((Kg K).2.2 3 i) :: S) := g_putf (f := 4) C d hal rfl rfl iX0 tyX0_ok nmX0 (Nat.le_of_ble_eq_true rfl) fl_X3_178 rfl rfl (ty := .int) (tyX0_ok 4 (by decide)) rfl rfl (Nat.le_of_ble_eq_true rfl) rfl hp kk
theorem f_X0_19 (C : Cx K cc RX0 nL ret rm z) {i : Nat} (d : decode cc pc = .ok (.getfield 19, 3)) (hal : wAl z 3 i) (hp : pc + 3 = pc') (kk : G K z I P O c n pc' L (.int (I 3 i 5) :: S)) : G K z I P O c n pc L (.ref ((Kg K).2.2 3 i) :: S) := g_getf (f := 5) C d hal rfl rfl iX0 (Nat.le_of_ble_eq_true rfl) fl_X0_19 rfl rfl hp kk
theorem p_X0_19 (C : Cx K cc RX0 nL ret rm z) {i : Nat} {x : Int32} (d : decode cc pc = .ok (.putfield 19, 3)) (hal : wAl z 3 i) (hp : pc + 3 = pc') (kk : G K z (upI I 3 i 5 x) P O c n pc' L S) : G K z I P O c n pc L (.int x :: .ref ((Kg K).2.2 3 i) :: S) := g_putf (f := 5) C d hal rfl rfl iX0 tyX0_ok nmX0 (Nat.le_of_ble_eq_true rfl) fl_X0_19 rfl rfl (ty := .int) (tyX0_ok 5 (by decide)) rfl rfl (Nat.le_of_ble_eq_true rfl) rfl hp kk
theorem f_X3_239 (C : Cx K cc RX3 nL ret rm z) {i : Nat} (d : decode cc pc = .ok (.getfield 239, 3)) (hal : wAl z 3 i) (hp : pc + 3 = pc') (kk : G K z I P O c n pc' L (.int (I 3 i 5) :: S)) : G K z I P O c n pc L (.ref ((Kg K).2.2 3 i) :: S) := g_getf (f := 5) C d hal rfl rfl iX0 (Nat.le_of_ble_eq_true rfl) fl_X3_239 rfl rfl hp kk
theorem p_X3_239 (C : Cx K cc RX3 nL ret rm z) {i : Nat} {x : Int32} (d : decode cc pc = .ok (.putfield 239, 3)) (hal : wAl z 3 i) (hp : pc + 3 = pc') (kk : G K z (upI I 3 i 5 x) P O c n pc' L S) : G K z I P O c n pc L (.int x :: .ref ((Kg K).2.2 3 i) :: S) := g_putf (f := 5) C d hal rfl rfl iX0 tyX0_ok nmX0 (Nat.le_of_ble_eq_true rfl) fl_X3_239 rfl rfl (ty := .int) (tyX0_ok 5 (by decide)) rfl rfl (Nat.le_of_ble_eq_true rfl) rfl hp kk
theorem f_X0_22 (C : Cx K cc RX0 nL ret rm z) {i : Nat} (d : decode cc pc = .ok (.getfield 22, 3)) (hal : wAl z 3 i) (hp : pc + 3 = pc') (kk : G K z I P O c n pc' L (.int (I 3 i 6) :: S)) : G K z I P O c n pc L (.ref ((Kg K).2.2 3 i) :: S) := g_getf (f := 6) C d hal rfl rfl iX0 (Nat.le_of_ble_eq_true rfl) fl_X0_22 rfl rfl hp kk
theorem p_X0_22 (C : Cx K cc RX0 nL ret rm z) {i : Nat} {x : Int32} (d : decode cc pc = .ok (.putfield 22, 3)) (hal : wAl z 3 i) (hp : pc + 3 = pc') (kk : G K z (upI I 3 i 6 x) P O c n pc' L S) : G K z I P O c n pc L (.int x :: .ref ((Kg K).2.2 3 i) :: S) := g_putf (f := 6) C d hal rfl rfl iX0 tyX0_ok nmX0 (Nat.le_of_ble_eq_true rfl) fl_X0_22 rfl rfl (ty := .int) (tyX0_ok 6 (by decide)) rfl rfl (Nat.le_of_ble_eq_true rfl) rfl hp kk
theorem f_X3_242 (C : Cx K cc RX3 nL ret rm z) {i : Nat} (d : decode cc pc = .ok (.getfield 242, 3)) (hal : wAl z 3 i) (hp : pc + 3 = pc') (kk : G K z I P O c n pc' L (.int (I 3 i 6) :: S)) : G K z I P O c n pc L (.ref ((Kg K).2.2 3 i) :: S) := g_getf (f := 6) C d hal rfl rfl iX0 (Nat.le_of_ble_eq_true rfl) fl_X3_242 rfl rfl hp kk
theorem p_X3_242 (C : Cx K cc RX3 nL ret rm z) {i : Nat} {x : Int32} (d : decode cc pc = .ok (.putfield 242, 3)) (hal : wAl z 3 i) (hp : pc + 3 = pc') (kk : G K z (upI I 3 i 6 x) P O c n pc' L S) : G K z I P O c n pc L (.int x :: .ref ((Kg K).2.2 3 i) :: S) := g_putf (f := 6) C d hal rfl rfl iX0 tyX0_ok nmX0 (Nat.le_of_ble_eq_true rfl) fl_X3_242 rfl rfl (ty := .int) (tyX0_ok 6 (by decide)) rfl rfl (Nat.le_of_ble_eq_true rfl) rfl hp kk
theorem f_X0_25 (C : Cx K cc RX0 nL ret rm z) {i : Nat} (d : decode cc pc = .ok (.getfield 25, 3)) (hal : wAl z 3 i) (hp : pc + 3 = pc') (kk : G K z I P O c n pc' L (.int (I 3 i 7) :: S)) : G K z I P O c n pc L (.ref ((Kg K).2.2 3 i) :: S) := g_getf (f := 7) C d hal rfl rfl iX0 (Nat.le_of_ble_eq_true rfl) fl_X0_25 rfl rfl hp kk
theorem p_X0_25 (C : Cx K cc RX0 nL ret rm z) {i : Nat} {x : Int32} (d : decode cc pc = .ok (.putfield 25, 3)) (hal : wAl z 3 i) (hp : pc + 3 = pc') (kk : G K z (upI I 3 i 7 x) P O c n pc' L S) : G K z I P O c n pc L (.int x :: .ref ((Kg K).2.2 3 i) :: S) := g_putf (f := 7) C d hal rfl rfl iX0 tyX0_ok nmX0 (Nat.le_of_ble_eq_true rfl) fl_X0_25 rfl rfl (ty := .int) (tyX0_ok 7 (by decide)) rfl rfl (Nat.le_of_ble_eq_true rfl) rfl hp kk
theorem f_X3_189 (C : Cx K cc RX3 nL ret rm z) {i : Nat} (d : decode cc pc = .ok (.getfield 189, 3)) (hal : wAl z 3 i) (hp : pc + 3 = pc') (kk : G K z I P O c n pc' L (.int (I 3 i 7) :: S)) : G K z I P O c n pc L (.ref ((Kg K).2.2 3 i) :: S) := g_getf (f := 7) C d hal rfl rfl iX0 (Nat.le_of_ble_eq_true rfl) fl_X3_189 rfl rfl hp kk
theorem p_X3_189 (C : Cx K cc RX3 nL ret rm z) {i : Nat} {x : Int32} (d : decode cc pc = .ok (.putfield 189, 3)) (hal : wAl z 3 i) (hp : pc + 3 = pc') (kk : G K z (upI I 3 i 7 x) P O c n pc' L S) : G K z I P O c n pc L (.int x :: .ref ((Kg K).2.2 3 i) :: S) := g_putf (f := 7) C d hal rfl rfl iX0 tyX0_ok nmX0 (Nat.le_of_ble_eq_true rfl) fl_X3_189 rfl rfl (ty := .int) (tyX0_ok 7 (by decide)) rfl rfl (Nat.le_of_ble_eq_true rfl) rfl hp kk
theorem f_X0_28 (C : Cx K cc RX0 nL ret rm z) {i : Nat} (d : decode cc pc = .ok (.getfield 28, 3)) (hal : wAl z 3 i) (hp : pc + 3 = pc') (kk : G K z I P O c n pc' L (.int (I 3 i 8) :: S)) : G K z I P O c n pc L (.ref ((Kg K).2.2 3 i) :: S) := g_getf (f := 8) C d hal rfl rfl iX0 (Nat.le_of_ble_eq_true rfl) fl_X0_28 rfl rfl hp kk
theorem p_X0_28 (C : Cx K cc RX0 nL ret rm z) {i : Nat} {x : Int32} (d : decode cc pc = .ok (.putfield 28, 3)) (hal : wAl z 3 i) (hb : narrow .boolean (.int x) = .int x) (hf : fits .boolean (.int x) = true) (hp : pc + 3 = pc') (kk : G K z (upI I 3 i 8 x) P O c n pc' L S) : G K z I P O c n pc L (.int x :: .ref ((Kg K).2.2 3 i) :: S) := g_putf (f := 8) C d hal rfl rfl iX0 tyX0_ok nmX0 (Nat.le_of_ble_eq_true rfl) fl_X0_28 rfl rfl (ty := .boolean) (tyX0_ok 8 (by decide)) hb hf (Nat.le_of_ble_eq_true rfl) rfl hp kk
theorem f_X0_32 (C : Cx K cc RX0 nL ret rm z) {i : Nat} (d : decode cc pc = .ok (.getfield 32, 3)) (hal : wAl z 3 i) (hp : pc + 3 = pc') (kk : G K z I P O c n pc' L (.int (I 3 i 9) :: S)) : G K z I P O c n pc L (.ref ((Kg K).2.2 3 i) :: S) := g_getf (f := 9) C d hal rfl rfl iX0 (Nat.le_of_ble_eq_true rfl) fl_X0_32 rfl rfl hp kk
theorem p_X0_32 (C : Cx K cc RX0 nL ret rm z) {i : Nat} {x : Int32} (d : decode cc pc = .ok (.putfield 32, 3)) (hal : wAl z 3 i) (hb : narrow .boolean (.int x) = .int x) (hf : fits .boolean (.int x) = true) (hp : pc + 3 = pc') (kk : G K z (upI I 3 i 9 x) P O c n pc' L S) : G K z I P O c n pc L (.int x :: .ref ((Kg K).2.2 3 i) :: S) := g_putf (f := 9) C d hal rfl rfl iX0 tyX0_ok nmX0 (Nat.le_of_ble_eq_true rfl) fl_X0_32 rfl rfl (ty := .boolean) (tyX0_ok 9 (by decide)) hb hf (Nat.le_of_ble_eq_true rfl) rfl hp kk
abbrev dp (v : Option Value) (I1 : wI) (P1 : wP) : Option Value → wI → wP → Prop := fun a b d => a = v ∧ b = I1 ∧ d = P1
theorem k_X3_42 (C : Cx K cc RX3 nL ret rm z) {i : Nat} {a0 : Value} {v : Value} {I1 : wI} {P1 : wP} {rmy : Room} (hM : RT (Kl K) yX3_interpreterAt cX3_interpreterAt 2 ((some (.object "Hearingpay$Interpreter"))) rmy (Kg K) z [.ref ((Kg K).2.2 0 i), a0] I P O (dp (some v) I1 P1)) (d : decode cc pc = .ok (.invokevirtual 42, 3)) (hal : wAl z 0 i) (hroom : (rmy.frames + 1 ≤ rm.frames ∧ 8 + (2 + 11) + rmy.locals ≤ rm.locals) ∧ rmy.cells = 0 ∧ rmy.slots = 0) (hcat : (S.map fun v => v.category).sum ≤ 8) (hf : c ≤ rm.cells ∧ n ≤ rm.slots) (hp : pc + 3 = pc') (kk : G K z I1 P1 O c n pc' L (v :: S)) : G K z I P O c n pc L (a0 :: .ref ((Kg K).2.2 0 i) :: S) := g_callV C cv_X3_42 hM d hal rfl rfl ⟨rfl, by decide +kernel, by decide +kernel, (by decide +kernel : (parseMethodDescriptor yX3_interpreterAt.desc).map (fun d => d.parameters.length) = some 1)⟩ hroom rfl hcat hf hp (fun v1 I2 P2 q => by obtain ⟨rfl, rfl, rfl⟩ := q; exact kk)
theorem k_X3_66 (C : Cx K cc RX3 nL ret rm z) {a0 a1 : Value} {v : Value} {I1 : wI} {P1 : wP} {rmy : Room} (hM : RT (Kl K) yX3_isIn cX3_isIn 2 ((some .boolean)) rmy (Kg K) z [a0, a1] I P O (dp (some v) I1 P1)) (d : decode cc pc = .ok (.invokestatic 66, 3)) (hroom : (rmy.frames + 1 ≤ rm.frames ∧ 8 + (2 + 11) + rmy.locals ≤ rm.locals) ∧ rmy.cells = 0 ∧ rmy.slots = 0) (hcat : (S.map fun v => v.category).sum ≤ 8) (hf : c ≤ rm.cells ∧ n ≤ rm.slots) (hp : pc + 3 = pc') (kk : G K z I1 P1 O c n pc' L (v :: S)) : G K z I P O c n pc L (a1 :: a0 :: S) := g_callS C cs_X3_66 hM d ⟨rfl, by decide +kernel, by decide +kernel, (by decide +kernel : (parseMethodDescriptor yX3_isIn.desc).map (fun d => d.parameters.length) = some 2)⟩ hroom rfl hcat hf hp (fun v1 I2 P2 q => by obtain ⟨rfl, rfl, rfl⟩ := q; exact kk)
theorem k_X3_70 (C : Cx K cc RX3 nL ret rm z) {a0 a1 : Value} {v : Value} {I1 : wI} {P1 : wP} {rmy : Room} (hM : RT (Kl K) yX3_isInOrNone cX3_isInOrNone 2 ((some .boolean)) rmy (Kg K) z [a0, a1] I P O (dp (some v) I1 P1)) (d : decode cc pc = .ok (.invokestatic 70, 3)) (hroom : (rmy.frames + 1 ≤ rm.frames ∧ 8 + (2 + 11) + rmy.locals ≤ rm.locals) ∧ rmy.cells = 0 ∧ rmy.slots = 0) (hcat : (S.map fun v => v.category).sum ≤ 8) (hf : c ≤ rm.cells ∧ n ≤ rm.slots) (hp : pc + 3 = pc') (kk : G K z I1 P1 O c n pc' L (v :: S)) : G K z I P O c n pc L (a1 :: a0 :: S) := g_callS C cs_X3_70 hM d ⟨rfl, by decide +kernel, by decide +kernel, (by decide +kernel : (parseMethodDescriptor yX3_isInOrNone.desc).map (fun d => d.parameters.length) = some 2)⟩ hroom rfl hcat hf hp (fun v1 I2 P2 q => by obtain ⟨rfl, rfl, rfl⟩ := q; exact kk)
theorem k_X3_88 (C : Cx K cc RX3 nL ret rm z) {i : Nat} {a0 a1 : Value} {v : Value} {I1 : wI} {P1 : wP} {rmy : Room} (hM : RT (Kl K) yX3_feeFor cX3_feeFor 4 ((some .int)) rmy (Kg K) z [.ref ((Kg K).2.2 0 i), a0, a1] I P O (dp (some v) I1 P1)) (d : decode cc pc = .ok (.invokevirtual 88, 3)) (hal : wAl z 0 i) (hroom : (rmy.frames + 1 ≤ rm.frames ∧ 8 + (4 + 11) + rmy.locals ≤ rm.locals) ∧ rmy.cells = 0 ∧ rmy.slots = 0) (hcat : (S.map fun v => v.category).sum ≤ 8) (hf : c ≤ rm.cells ∧ n ≤ rm.slots) (hp : pc + 3 = pc') (kk : G K z I1 P1 O c n pc' L (v :: S)) : G K z I P O c n pc L (a1 :: a0 :: .ref ((Kg K).2.2 0 i) :: S) := g_callV C cv_X3_88 hM d hal rfl rfl ⟨rfl, by decide +kernel, by decide +kernel, (by decide +kernel : (parseMethodDescriptor yX3_feeFor.desc).map (fun d => d.parameters.length) = some 2)⟩ hroom rfl hcat hf hp (fun v1 I2 P2 q => by obtain ⟨rfl, rfl, rfl⟩ := q; exact kk)
theorem k_X3_200 (C : Cx K cc RX3 nL ret rm z) {i : Nat} {v : Value} {I1 : wI} {P1 : wP} {rmy : Room} (hM : RT (Kl K) yX3_endHearings cX3_endHearings 4 ((some .int)) rmy (Kg K) z [.ref ((Kg K).2.2 0 i)] I P O (dp (some v) I1 P1)) (d : decode cc pc = .ok (.invokevirtual 200, 3)) (hal : wAl z 0 i) (hroom : (rmy.frames + 1 ≤ rm.frames ∧ 8 + (4 + 11) + rmy.locals ≤ rm.locals) ∧ rmy.cells = 0 ∧ rmy.slots = 0) (hcat : (S.map fun v => v.category).sum ≤ 8) (hf : c ≤ rm.cells ∧ n ≤ rm.slots) (hp : pc + 3 = pc') (kk : G K z I1 P1 O c n pc' L (v :: S)) : G K z I P O c n pc L (.ref ((Kg K).2.2 0 i) :: S) := g_callV C cv_X3_200 hM d hal rfl rfl ⟨rfl, by decide +kernel, by decide +kernel, (by decide +kernel : (parseMethodDescriptor yX3_endHearings.desc).map (fun d => d.parameters.length) = some 0)⟩ hroom rfl hcat hf hp (fun v1 I2 P2 q => by obtain ⟨rfl, rfl, rfl⟩ := q; exact kk)
theorem k_X3_149 (C : Cx K cc RX3 nL ret rm z) {i : Nat} {a0 : Value} {v : Value} {I1 : wI} {P1 : wP} {rmy : Room} (hM : RT (Kl K) yX3_hearingAt cX3_hearingAt 2 ((some (.object "Hearingpay$Hearing"))) rmy (Kg K) z [.ref ((Kg K).2.2 0 i), a0] I P O (dp (some v) I1 P1)) (d : decode cc pc = .ok (.invokevirtual 149, 3)) (hal : wAl z 0 i) (hroom : (rmy.frames + 1 ≤ rm.frames ∧ 8 + (2 + 11) + rmy.locals ≤ rm.locals) ∧ rmy.cells = 0 ∧ rmy.slots = 0) (hcat : (S.map fun v => v.category).sum ≤ 8) (hf : c ≤ rm.cells ∧ n ≤ rm.slots) (hp : pc + 3 = pc') (kk : G K z I1 P1 O c n pc' L (v :: S)) : G K z I P O c n pc L (a0 :: .ref ((Kg K).2.2 0 i) :: S) := g_callV C cv_X3_149 hM d hal rfl rfl ⟨rfl, by decide +kernel, by decide +kernel, (by decide +kernel : (parseMethodDescriptor yX3_hearingAt.desc).map (fun d => d.parameters.length) = some 1)⟩ hroom rfl hcat hf hp (fun v1 I2 P2 q => by obtain ⟨rfl, rfl, rfl⟩ := q; exact kk)
theorem k_X3_279 (C : Cx K cc RX3 nL ret rm z) {i : Nat} {I1 : wI} {P1 : wP} {rmy : Room} (hM : RT (Kl K) yX0_end cX0_end 1 (none) rmy (Kg K) z [.ref ((Kg K).2.2 3 i)] I P O (dp none I1 P1)) (d : decode cc pc = .ok (.invokevirtual 279, 3)) (hal : wAl z 3 i) (hroom : (rmy.frames + 1 ≤ rm.frames ∧ 8 + (1 + 11) + rmy.locals ≤ rm.locals) ∧ rmy.cells = 0 ∧ rmy.slots = 0) (hcat : (S.map fun v => v.category).sum ≤ 8) (hf : c ≤ rm.cells ∧ n ≤ rm.slots) (hp : pc + 3 = pc') (kk : G K z I1 P1 O c n pc' L (S)) : G K z I P O c n pc L (.ref ((Kg K).2.2 3 i) :: S) := g_callV C cv_X3_279 hM d hal rfl rfl ⟨rfl, by decide +kernel, by decide +kernel, (by decide +kernel : (parseMethodDescriptor yX0_end.desc).map (fun d => d.parameters.length) = some 0)⟩ hroom rfl hcat hf hp (fun v1 I2 P2 q => by obtain ⟨rfl, rfl, rfl⟩ := q; exact kk)
theorem k_X0_64 (C : Cx K cc RX0 nL ret rm z) {i : Nat} {v : Value} {I1 : wI} {P1 : wP} {rmy : Room} (hM : RT (Kl K) yX2_isOpen cX2_isOpen 1 ((some .boolean)) rmy (Kg K) z [.ref ((Kg K).2.2 2 i)] I P O (dp (some v) I1 P1)) (d : decode cc pc = .ok (.invokevirtual 64, 3)) (hal : wAl z 2 i) (hroom : (rmy.frames + 1 ≤ rm.frames ∧ 8 + (1 + 11) + rmy.locals ≤ rm.locals) ∧ rmy.cells = 0 ∧ rmy.slots = 0) (hcat : (S.map fun v => v.category).sum ≤ 8) (hf : c ≤ rm.cells ∧ n ≤ rm.slots) (hp : pc + 3 = pc') (kk : G K z I1 P1 O c n pc' L (v :: S)) : G K z I P O c n pc L (.ref ((Kg K).2.2 2 i) :: S) := g_callV C cv_X0_64 hM d hal rfl rfl ⟨rfl, by decide +kernel, by decide +kernel, (by decide +kernel : (parseMethodDescriptor yX2_isOpen.desc).map (fun d => d.parameters.length) = some 0)⟩ hroom rfl hcat hf hp (fun v1 I2 P2 q => by obtain ⟨rfl, rfl, rfl⟩ := q; exact kk)
theorem k_X3_204 (C : Cx K cc RX3 nL ret rm z) {i : Nat} {I1 : wI} {P1 : wP} {rmy : Room} (hM : RT (Kl K) yX3_runTerms cX3_runTerms 3 (none) rmy (Kg K) z [.ref ((Kg K).2.2 0 i)] I P O (dp none I1 P1)) (d : decode cc pc = .ok (.invokevirtual 204, 3)) (hal : wAl z 0 i) (hroom : (rmy.frames + 1 ≤ rm.frames ∧ 8 + (3 + 11) + rmy.locals ≤ rm.locals) ∧ rmy.cells = 0 ∧ rmy.slots = 0) (hcat : (S.map fun v => v.category).sum ≤ 8) (hf : c ≤ rm.cells ∧ n ≤ rm.slots) (hp : pc + 3 = pc') (kk : G K z I1 P1 O c n pc' L (S)) : G K z I P O c n pc L (.ref ((Kg K).2.2 0 i) :: S) := g_callV C cv_X3_204 hM d hal rfl rfl ⟨rfl, by decide +kernel, by decide +kernel, (by decide +kernel : (parseMethodDescriptor yX3_runTerms.desc).map (fun d => d.parameters.length) = some 0)⟩ hroom rfl hcat hf hp (fun v1 I2 P2 q => by obtain ⟨rfl, rfl, rfl⟩ := q; exact kk)
theorem k_X3_95 (C : Cx K cc RX3 nL ret rm z) {i : Nat} {a0 : Value} {v : Value} {I1 : wI} {P1 : wP} {rmy : Room} (hM : RT (Kl K) yX3_matterAt cX3_matterAt 2 ((some (.object "Hearingpay$Matter"))) rmy (Kg K) z [.ref ((Kg K).2.2 0 i), a0] I P O (dp (some v) I1 P1)) (d : decode cc pc = .ok (.invokevirtual 95, 3)) (hal : wAl z 0 i) (hroom : (rmy.frames + 1 ≤ rm.frames ∧ 8 + (2 + 11) + rmy.locals ≤ rm.locals) ∧ rmy.cells = 0 ∧ rmy.slots = 0) (hcat : (S.map fun v => v.category).sum ≤ 8) (hf : c ≤ rm.cells ∧ n ≤ rm.slots) (hp : pc + 3 = pc') (kk : G K z I1 P1 O c n pc' L (v :: S)) : G K z I P O c n pc L (a0 :: .ref ((Kg K).2.2 0 i) :: S) := g_callV C cv_X3_95 hM d hal rfl rfl ⟨rfl, by decide +kernel, by decide +kernel, (by decide +kernel : (parseMethodDescriptor yX3_matterAt.desc).map (fun d => d.parameters.length) = some 1)⟩ hroom rfl hcat hf hp (fun v1 I2 P2 q => by obtain ⟨rfl, rfl, rfl⟩ := q; exact kk)
theorem k_X3_281 (C : Cx K cc RX3 nL ret rm z) {i : Nat} {a0 : Value} {I1 : wI} {P1 : wP} {rmy : Room} (hM : RT (Kl K) yX2_runTerm cX2_runTerm 2 (none) rmy (Kg K) z [.ref ((Kg K).2.2 2 i), a0] I P O (dp none I1 P1)) (d : decode cc pc = .ok (.invokevirtual 281, 3)) (hal : wAl z 2 i) (hroom : (rmy.frames + 1 ≤ rm.frames ∧ 8 + (2 + 11) + rmy.locals ≤ rm.locals) ∧ rmy.cells = 0 ∧ rmy.slots = 0) (hcat : (S.map fun v => v.category).sum ≤ 8) (hf : c ≤ rm.cells ∧ n ≤ rm.slots) (hp : pc + 3 = pc') (kk : G K z I1 P1 O c n pc' L (S)) : G K z I P O c n pc L (a0 :: .ref ((Kg K).2.2 2 i) :: S) := g_callV C cv_X3_281 hM d hal rfl rfl ⟨rfl, by decide +kernel, by decide +kernel, (by decide +kernel : (parseMethodDescriptor yX2_runTerm.desc).map (fun d => d.parameters.length) = some 1)⟩ hroom rfl hcat hf hp (fun v1 I2 P2 q => by obtain ⟨rfl, rfl, rfl⟩ := q; exact kk)
theorem k_X2_36 (C : Cx K cc RX2 nL ret rm z) {i : Nat} {v : Value} {I1 : wI} {P1 : wP} {rmy : Room} (hM : RT (Kl K) yX2_isOpen cX2_isOpen 1 ((some .boolean)) rmy (Kg K) z [.ref ((Kg K).2.2 2 i)] I P O (dp (some v) I1 P1)) (d : decode cc pc = .ok (.invokevirtual 36, 3)) (hal : wAl z 2 i) (hroom : (rmy.frames + 1 ≤ rm.frames ∧ 8 + (1 + 11) + rmy.locals ≤ rm.locals) ∧ rmy.cells = 0 ∧ rmy.slots = 0) (hcat : (S.map fun v => v.category).sum ≤ 8) (hf : c ≤ rm.cells ∧ n ≤ rm.slots) (hp : pc + 3 = pc') (kk : G K z I1 P1 O c n pc' L (v :: S)) : G K z I P O c n pc L (.ref ((Kg K).2.2 2 i) :: S) := g_callV C cv_X2_36 hM d hal rfl rfl ⟨rfl, by decide +kernel, by decide +kernel, (by decide +kernel : (parseMethodDescriptor yX2_isOpen.desc).map (fun d => d.parameters.length) = some 0)⟩ hroom rfl hcat hf hp (fun v1 I2 P2 q => by obtain ⟨rfl, rfl, rfl⟩ := q; exact kk)
theorem k_X3_125 (C : Cx K cc RX3 nL ret rm z) {i : Nat} {v : Value} {I1 : wI} {P1 : wP} {rmy : Room} (hM : RT (Kl K) yX2_isOpen cX2_isOpen 1 ((some .boolean)) rmy (Kg K) z [.ref ((Kg K).2.2 2 i)] I P O (dp (some v) I1 P1)) (d : decode cc pc = .ok (.invokevirtual 125, 3)) (hal : wAl z 2 i) (hroom : (rmy.frames + 1 ≤ rm.frames ∧ 8 + (1 + 11) + rmy.locals ≤ rm.locals) ∧ rmy.cells = 0 ∧ rmy.slots = 0) (hcat : (S.map fun v => v.category).sum ≤ 8) (hf : c ≤ rm.cells ∧ n ≤ rm.slots) (hp : pc + 3 = pc') (kk : G K z I1 P1 O c n pc' L (v :: S)) : G K z I P O c n pc L (.ref ((Kg K).2.2 2 i) :: S) := g_callV C cv_X3_125 hM d hal rfl rfl ⟨rfl, by decide +kernel, by decide +kernel, (by decide +kernel : (parseMethodDescriptor yX2_isOpen.desc).map (fun d => d.parameters.length) = some 0)⟩ hroom rfl hcat hf hp (fun v1 I2 P2 q => by obtain ⟨rfl, rfl, rfl⟩ := q; exact kk)
theorem k_X3_129 (C : Cx K cc RX3 nL ret rm z) {i : Nat} {a0 a1 : Value} {v : Value} {I1 : wI} {P1 : wP} {rmy : Room} (hM : RT (Kl K) yX3_isAsNeeded cX3_isAsNeeded 4 ((some .boolean)) rmy (Kg K) z [.ref ((Kg K).2.2 0 i), a0, a1] I P O (dp (some v) I1 P1)) (d : decode cc pc = .ok (.invokevirtual 129, 3)) (hal : wAl z 0 i) (hroom : (rmy.frames + 1 ≤ rm.frames ∧ 8 + (4 + 11) + rmy.locals ≤ rm.locals) ∧ rmy.cells = 0 ∧ rmy.slots = 0) (hcat : (S.map fun v => v.category).sum ≤ 8) (hf : c ≤ rm.cells ∧ n ≤ rm.slots) (hp : pc + 3 = pc') (kk : G K z I1 P1 O c n pc' L (v :: S)) : G K z I P O c n pc L (a1 :: a0 :: .ref ((Kg K).2.2 0 i) :: S) := g_callV C cv_X3_129 hM d hal rfl rfl ⟨rfl, by decide +kernel, by decide +kernel, (by decide +kernel : (parseMethodDescriptor yX3_isAsNeeded.desc).map (fun d => d.parameters.length) = some 2)⟩ hroom rfl hcat hf hp (fun v1 I2 P2 q => by obtain ⟨rfl, rfl, rfl⟩ := q; exact kk)
theorem k_X3_257 (C : Cx K cc RX3 nL ret rm z) {i : Nat} {a0 : Value} {v : Value} {I1 : wI} {P1 : wP} {rmy : Room} (hM : RT (Kl K) yX1_knows cX1_knows 2 ((some .boolean)) rmy (Kg K) z [.ref ((Kg K).2.2 1 i), a0] I P O (dp (some v) I1 P1)) (d : decode cc pc = .ok (.invokevirtual 257, 3)) (hal : wAl z 1 i) (hroom : (rmy.frames + 1 ≤ rm.frames ∧ 8 + (2 + 11) + rmy.locals ≤ rm.locals) ∧ rmy.cells = 0 ∧ rmy.slots = 0) (hcat : (S.map fun v => v.category).sum ≤ 8) (hf : c ≤ rm.cells ∧ n ≤ rm.slots) (hp : pc + 3 = pc') (kk : G K z I1 P1 O c n pc' L (v :: S)) : G K z I P O c n pc L (a0 :: .ref ((Kg K).2.2 1 i) :: S) := g_callV C cv_X3_257 hM d hal rfl rfl ⟨rfl, by decide +kernel, by decide +kernel, (by decide +kernel : (parseMethodDescriptor yX1_knows.desc).map (fun d => d.parameters.length) = some 1)⟩ hroom rfl hcat hf hp (fun v1 I2 P2 q => by obtain ⟨rfl, rfl, rfl⟩ := q; exact kk)
theorem k_X3_135 (C : Cx K cc RX3 nL ret rm z) {i : Nat} {a0 a1 a2 a3 a4 a5 : Value} {v : Value} {I1 : wI} {P1 : wP} {rmy : Room} (hM : RT (Kl K) yX3_clashReason cX3_clashReason 11 ((some .int)) rmy (Kg K) z [.ref ((Kg K).2.2 0 i), a0, a1, a2, a3, a4, a5] I P O (dp (some v) I1 P1)) (d : decode cc pc = .ok (.invokevirtual 135, 3)) (hal : wAl z 0 i) (hroom : (rmy.frames + 1 ≤ rm.frames ∧ 8 + (11 + 11) + rmy.locals ≤ rm.locals) ∧ rmy.cells = 0 ∧ rmy.slots = 0) (hcat : (S.map fun v => v.category).sum ≤ 8) (hf : c ≤ rm.cells ∧ n ≤ rm.slots) (hp : pc + 3 = pc') (kk : G K z I1 P1 O c n pc' L (v :: S)) : G K z I P O c n pc L (a5 :: a4 :: a3 :: a2 :: a1 :: a0 :: .ref ((Kg K).2.2 0 i) :: S) := g_callV C cv_X3_135 hM d hal rfl rfl ⟨rfl, by decide +kernel, by decide +kernel, (by decide +kernel : (parseMethodDescriptor yX3_clashReason.desc).map (fun d => d.parameters.length) = some 6)⟩ hroom rfl hcat hf hp (fun v1 I2 P2 q => by obtain ⟨rfl, rfl, rfl⟩ := q; exact kk)
theorem k_X3_218 (C : Cx K cc RX3 nL ret rm z) {i : Nat} {a0 a1 : Value} {v : Value} {I1 : wI} {P1 : wP} {rmy : Room} (hM : RT (Kl K) yX0_takesPartOf cX0_takesPartOf 3 ((some .boolean)) rmy (Kg K) z [.ref ((Kg K).2.2 3 i), a0, a1] I P O (dp (some v) I1 P1)) (d : decode cc pc = .ok (.invokevirtual 218, 3)) (hal : wAl z 3 i) (hroom : (rmy.frames + 1 ≤ rm.frames ∧ 8 + (3 + 11) + rmy.locals ≤ rm.locals) ∧ rmy.cells = 0 ∧ rmy.slots = 0) (hcat : (S.map fun v => v.category).sum ≤ 8) (hf : c ≤ rm.cells ∧ n ≤ rm.slots) (hp : pc + 3 = pc') (kk : G K z I1 P1 O c n pc' L (v :: S)) : G K z I P O c n pc L (a1 :: a0 :: .ref ((Kg K).2.2 3 i) :: S) := g_callV C cv_X3_218 hM d hal rfl rfl ⟨rfl, by decide +kernel, by decide +kernel, (by decide +kernel : (parseMethodDescriptor yX0_takesPartOf.desc).map (fun d => d.parameters.length) = some 2)⟩ hroom rfl hcat hf hp (fun v1 I2 P2 q => by obtain ⟨rfl, rfl, rfl⟩ := q; exact kk)
theorem k_X3_260 (C : Cx K cc RX3 nL ret rm z) {i : Nat} {a0 a1 a2 : Value} {v : Value} {I1 : wI} {P1 : wP} {rmy : Room} (hM : RT (Kl K) yX0_reasonAgainst cX0_reasonAgainst 4 ((some .int)) rmy (Kg K) z [.ref ((Kg K).2.2 3 i), a0, a1, a2] I P O (dp (some v) I1 P1)) (d : decode cc pc = .ok (.invokevirtual 260, 3)) (hal : wAl z 3 i) (hroom : (rmy.frames + 1 ≤ rm.frames ∧ 8 + (4 + 11) + rmy.locals ≤ rm.locals) ∧ rmy.cells = 0 ∧ rmy.slots = 0) (hcat : (S.map fun v => v.category).sum ≤ 8) (hf : c ≤ rm.cells ∧ n ≤ rm.slots) (hp : pc + 3 = pc') (kk : G K z I1 P1 O c n pc' L (v :: S)) : G K z I P O c n pc L (a2 :: a1 :: a0 :: .ref ((Kg K).2.2 3 i) :: S) := g_callV C cv_X3_260 hM d hal rfl rfl ⟨rfl, by decide +kernel, by decide +kernel, (by decide +kernel : (parseMethodDescriptor yX0_reasonAgainst.desc).map (fun d => d.parameters.length) = some 3)⟩ hroom rfl hcat hf hp (fun v1 I2 P2 q => by obtain ⟨rfl, rfl, rfl⟩ := q; exact kk)
theorem k_X0_54 (C : Cx K cc RX0 nL ret rm z) {i : Nat} {a0 a1 : Value} {v : Value} {I1 : wI} {P1 : wP} {rmy : Room} (hM : RT (Kl K) yX0_needs cX0_needs 3 ((some .boolean)) rmy (Kg K) z [.ref ((Kg K).2.2 3 i), a0, a1] I P O (dp (some v) I1 P1)) (d : decode cc pc = .ok (.invokevirtual 54, 3)) (hal : wAl z 3 i) (hroom : (rmy.frames + 1 ≤ rm.frames ∧ 8 + (3 + 11) + rmy.locals ≤ rm.locals) ∧ rmy.cells = 0 ∧ rmy.slots = 0) (hcat : (S.map fun v => v.category).sum ≤ 8) (hf : c ≤ rm.cells ∧ n ≤ rm.slots) (hp : pc + 3 = pc') (kk : G K z I1 P1 O c n pc' L (v :: S)) : G K z I P O c n pc L (a1 :: a0 :: .ref ((Kg K).2.2 3 i) :: S) := g_callV C cv_X0_54 hM d hal rfl rfl ⟨rfl, by decide +kernel, by decide +kernel, (by decide +kernel : (parseMethodDescriptor yX0_needs.desc).map (fun d => d.parameters.length) = some 2)⟩ hroom rfl hcat hf hp (fun v1 I2 P2 q => by obtain ⟨rfl, rfl, rfl⟩ := q; exact kk)
theorem k_X0_50 (C : Cx K cc RX0 nL ret rm z) {i : Nat} {a0 : Value} {v : Value} {I1 : wI} {P1 : wP} {rmy : Room} (hM : RT (Kl K) yX2_isOf cX2_isOf 2 ((some .boolean)) rmy (Kg K) z [.ref ((Kg K).2.2 2 i), a0] I P O (dp (some v) I1 P1)) (d : decode cc pc = .ok (.invokevirtual 50, 3)) (hal : wAl z 2 i) (hroom : (rmy.frames + 1 ≤ rm.frames ∧ 8 + (2 + 11) + rmy.locals ≤ rm.locals) ∧ rmy.cells = 0 ∧ rmy.slots = 0) (hcat : (S.map fun v => v.category).sum ≤ 8) (hf : c ≤ rm.cells ∧ n ≤ rm.slots) (hp : pc + 3 = pc') (kk : G K z I1 P1 O c n pc' L (v :: S)) : G K z I P O c n pc L (a0 :: .ref ((Kg K).2.2 2 i) :: S) := g_callV C cv_X0_50 hM d hal rfl rfl ⟨rfl, by decide +kernel, by decide +kernel, (by decide +kernel : (parseMethodDescriptor yX2_isOf.desc).map (fun d => d.parameters.length) = some 1)⟩ hroom rfl hcat hf hp (fun v1 I2 P2 q => by obtain ⟨rfl, rfl, rfl⟩ := q; exact kk)
theorem k_X3_144 (C : Cx K cc RX3 nL ret rm z) {i : Nat} {a0 a1 a2 a3 : Value} {I1 : wI} {P1 : wP} {rmy : Room} (hM : RT (Kl K) yX3_put cX3_put 7 (none) rmy (Kg K) z [.ref ((Kg K).2.2 0 i), a0, a1, a2, a3] I P O (dp none I1 P1)) (d : decode cc pc = .ok (.invokevirtual 144, 3)) (hal : wAl z 0 i) (hroom : (rmy.frames + 1 ≤ rm.frames ∧ 8 + (7 + 11) + rmy.locals ≤ rm.locals) ∧ rmy.cells = 0 ∧ rmy.slots = 0) (hcat : (S.map fun v => v.category).sum ≤ 8) (hf : c ≤ rm.cells ∧ n ≤ rm.slots) (hp : pc + 3 = pc') (kk : G K z I1 P1 O c n pc' L (S)) : G K z I P O c n pc L (a3 :: a2 :: a1 :: a0 :: .ref ((Kg K).2.2 0 i) :: S) := g_callV C cv_X3_144 hM d hal rfl rfl ⟨rfl, by decide +kernel, by decide +kernel, (by decide +kernel : (parseMethodDescriptor yX3_put.desc).map (fun d => d.parameters.length) = some 4)⟩ hroom rfl hcat hf hp (fun v1 I2 P2 q => by obtain ⟨rfl, rfl, rfl⟩ := q; exact kk)
theorem k_X3_264 (C : Cx K cc RX3 nL ret rm z) {i : Nat} {a0 a1 a2 : Value} {I1 : wI} {P1 : wP} {rmy : Room} (hM : RT (Kl K) yX0_settleAt cX0_settleAt 4 (none) rmy (Kg K) z [.ref ((Kg K).2.2 3 i), a0, a1, a2] I P O (dp none I1 P1)) (d : decode cc pc = .ok (.invokevirtual 264, 3)) (hal : wAl z 3 i) (hroom : (rmy.frames + 1 ≤ rm.frames ∧ 8 + (4 + 11) + rmy.locals ≤ rm.locals) ∧ rmy.cells = 0 ∧ rmy.slots = 0) (hcat : (S.map fun v => v.category).sum ≤ 8) (hf : c ≤ rm.cells ∧ n ≤ rm.slots) (hp : pc + 3 = pc') (kk : G K z I1 P1 O c n pc' L (S)) : G K z I P O c n pc L (a2 :: a1 :: a0 :: .ref ((Kg K).2.2 3 i) :: S) := g_callV C cv_X3_264 hM d hal rfl rfl ⟨rfl, by decide +kernel, by decide +kernel, (by decide +kernel : (parseMethodDescriptor yX0_settleAt.desc).map (fun d => d.parameters.length) = some 3)⟩ hroom rfl hcat hf hp (fun v1 I2 P2 q => by obtain ⟨rfl, rfl, rfl⟩ := q; exact kk)
theorem k_X3_272 (C : Cx K cc RX3 nL ret rm z) {i : Nat} {a0 a1 a2 : Value} {v : Value} {I1 : wI} {P1 : wP} {rmy : Room} (hM : RT (Kl K) yX1_take cX1_take 7 ((some .int)) rmy (Kg K) z [.ref ((Kg K).2.2 1 i), a0, a1, a2] I P O (dp (some v) I1 P1)) (d : decode cc pc = .ok (.invokevirtual 272, 3)) (hal : wAl z 1 i) (hroom : (rmy.frames + 1 ≤ rm.frames ∧ 8 + (7 + 11) + rmy.locals ≤ rm.locals) ∧ rmy.cells = 0 ∧ rmy.slots = 0) (hcat : (S.map fun v => v.category).sum ≤ 8) (hf : c ≤ rm.cells ∧ n ≤ rm.slots) (hp : pc + 3 = pc') (kk : G K z I1 P1 O c n pc' L (v :: S)) : G K z I P O c n pc L (a2 :: a1 :: a0 :: .ref ((Kg K).2.2 1 i) :: S) := g_callV C cv_X3_272 hM d hal rfl rfl ⟨rfl, by decide +kernel, by decide +kernel, (by decide +kernel : (parseMethodDescriptor yX1_take.desc).map (fun d => d.parameters.length) = some 3)⟩ hroom rfl hcat hf hp (fun v1 I2 P2 q => by obtain ⟨rfl, rfl, rfl⟩ := q; exact kk)
theorem k_X1_35 (C : Cx K cc RX1 nL ret rm z) {i : Nat} {a0 a1 : Value} {v : Value} {I1 : wI} {P1 : wP} {rmy : Room} (hM : RT (Kl K) yX1_payer cX1_payer 4 ((some (.object "Hearingpay$Matter"))) rmy (Kg K) z [.ref ((Kg K).2.2 1 i), a0, a1] I P O (dp (some v) I1 P1)) (d : decode cc pc = .ok (.invokevirtual 35, 3)) (hal : wAl z 1 i) (hroom : (rmy.frames + 1 ≤ rm.frames ∧ 8 + (4 + 11) + rmy.locals ≤ rm.locals) ∧ rmy.cells = 0 ∧ rmy.slots = 0) (hcat : (S.map fun v => v.category).sum ≤ 8) (hf : c ≤ rm.cells ∧ n ≤ rm.slots) (hp : pc + 3 = pc') (kk : G K z I1 P1 O c n pc' L (v :: S)) : G K z I P O c n pc L (a1 :: a0 :: .ref ((Kg K).2.2 1 i) :: S) := g_callV C cv_X1_35 hM d hal rfl rfl ⟨rfl, by decide +kernel, by decide +kernel, (by decide +kernel : (parseMethodDescriptor yX1_payer.desc).map (fun d => d.parameters.length) = some 2)⟩ hroom rfl hcat hf hp (fun v1 I2 P2 q => by obtain ⟨rfl, rfl, rfl⟩ := q; exact kk)
theorem k_X1_31 (C : Cx K cc RX1 nL ret rm z) {a0 : Value} {v : Value} {I1 : wI} {P1 : wP} {rmy : Room} (hM : RT (Kl K) yX1_placeOf cX1_placeOf 1 ((some .int)) rmy (Kg K) z [a0] I P O (dp (some v) I1 P1)) (d : decode cc pc = .ok (.invokestatic 31, 3)) (hroom : (rmy.frames + 1 ≤ rm.frames ∧ 8 + (1 + 11) + rmy.locals ≤ rm.locals) ∧ rmy.cells = 0 ∧ rmy.slots = 0) (hcat : (S.map fun v => v.category).sum ≤ 8) (hf : c ≤ rm.cells ∧ n ≤ rm.slots) (hp : pc + 3 = pc') (kk : G K z I1 P1 O c n pc' L (v :: S)) : G K z I P O c n pc L (a0 :: S) := g_callS C cs_X1_31 hM d ⟨rfl, by decide +kernel, by decide +kernel, (by decide +kernel : (parseMethodDescriptor yX1_placeOf.desc).map (fun d => d.parameters.length) = some 1)⟩ hroom rfl hcat hf hp (fun v1 I2 P2 q => by obtain ⟨rfl, rfl, rfl⟩ := q; exact kk)
theorem k_X3_248 (C : Cx K cc RX3 nL ret rm z) {i : Nat} {v : Value} {I1 : wI} {P1 : wP} {rmy : Room} (hM : RT (Kl K) yX0_charged cX0_charged 3 ((some .int)) rmy (Kg K) z [.ref ((Kg K).2.2 3 i)] I P O (dp (some v) I1 P1)) (d : decode cc pc = .ok (.invokevirtual 248, 3)) (hal : wAl z 3 i) (hroom : (rmy.frames + 1 ≤ rm.frames ∧ 8 + (3 + 11) + rmy.locals ≤ rm.locals) ∧ rmy.cells = 0 ∧ rmy.slots = 0) (hcat : (S.map fun v => v.category).sum ≤ 8) (hf : c ≤ rm.cells ∧ n ≤ rm.slots) (hp : pc + 3 = pc') (kk : G K z I1 P1 O c n pc' L (v :: S)) : G K z I P O c n pc L (.ref ((Kg K).2.2 3 i) :: S) := g_callV C cv_X3_248 hM d hal rfl rfl ⟨rfl, by decide +kernel, by decide +kernel, (by decide +kernel : (parseMethodDescriptor yX0_charged.desc).map (fun d => d.parameters.length) = some 0)⟩ hroom rfl hcat hf hp (fun v1 I2 P2 q => by obtain ⟨rfl, rfl, rfl⟩ := q; exact kk)
theorem k_X3_157 (C : Cx K cc RX3 nL ret rm z) {i : Nat} {a0 : Value} {v : Value} {I1 : wI} {P1 : wP} {rmy : Room} (hM : RT (Kl K) yX3_isToBegin cX3_isToBegin 2 ((some .boolean)) rmy (Kg K) z [.ref ((Kg K).2.2 0 i), a0] I P O (dp (some v) I1 P1)) (d : decode cc pc = .ok (.invokevirtual 157, 3)) (hal : wAl z 0 i) (hroom : (rmy.frames + 1 ≤ rm.frames ∧ 8 + (2 + 11) + rmy.locals ≤ rm.locals) ∧ rmy.cells = 0 ∧ rmy.slots = 0) (hcat : (S.map fun v => v.category).sum ≤ 8) (hf : c ≤ rm.cells ∧ n ≤ rm.slots) (hp : pc + 3 = pc') (kk : G K z I1 P1 O c n pc' L (v :: S)) : G K z I P O c n pc L (a0 :: .ref ((Kg K).2.2 0 i) :: S) := g_callV C cv_X3_157 hM d hal rfl rfl ⟨rfl, by decide +kernel, by decide +kernel, (by decide +kernel : (parseMethodDescriptor yX3_isToBegin.desc).map (fun d => d.parameters.length) = some 1)⟩ hroom rfl hcat hf hp (fun v1 I2 P2 q => by obtain ⟨rfl, rfl, rfl⟩ := q; exact kk)
theorem k_X3_170 (C : Cx K cc RX3 nL ret rm z) {i : Nat} {a0 : Value} {I1 : wI} {P1 : wP} {rmy : Room} (hM : RT (Kl K) yX3_leave cX3_leave 4 (none) rmy (Kg K) z [.ref ((Kg K).2.2 0 i), a0] I P O (dp none I1 P1)) (d : decode cc pc = .ok (.invokevirtual 170, 3)) (hal : wAl z 0 i) (hroom : (rmy.frames + 1 ≤ rm.frames ∧ 8 + (4 + 11) + rmy.locals ≤ rm.locals) ∧ rmy.cells = 0 ∧ rmy.slots = 0) (hcat : (S.map fun v => v.category).sum ≤ 8) (hf : c ≤ rm.cells ∧ n ≤ rm.slots) (hp : pc + 3 = pc') (kk : G K z I1 P1 O c n pc' L (S)) : G K z I P O c n pc L (a0 :: .ref ((Kg K).2.2 0 i) :: S) := g_callV C cv_X3_170 hM d hal rfl rfl ⟨rfl, by decide +kernel, by decide +kernel, (by decide +kernel : (parseMethodDescriptor yX3_leave.desc).map (fun d => d.parameters.length) = some 1)⟩ hroom rfl hcat hf hp (fun v1 I2 P2 q => by obtain ⟨rfl, rfl, rfl⟩ := q; exact kk)
theorem k_X3_276 (C : Cx K cc RX3 nL ret rm z) {i : Nat} {a0 a1 a2 : Value} {I1 : wI} {P1 : wP} {rmy : Room} (hM : RT (Kl K) yX1_keep cX1_keep 5 (none) rmy (Kg K) z [.ref ((Kg K).2.2 1 i), a0, a1, a2] I P O (dp none I1 P1)) (d : decode cc pc = .ok (.invokevirtual 276, 3)) (hal : wAl z 1 i) (hroom : (rmy.frames + 1 ≤ rm.frames ∧ 8 + (5 + 11) + rmy.locals ≤ rm.locals) ∧ rmy.cells = 0 ∧ rmy.slots = 0) (hcat : (S.map fun v => v.category).sum ≤ 8) (hf : c ≤ rm.cells ∧ n ≤ rm.slots) (hp : pc + 3 = pc') (kk : G K z I1 P1 O c n pc' L (S)) : G K z I P O c n pc L (a2 :: a1 :: a0 :: .ref ((Kg K).2.2 1 i) :: S) := g_callV C cv_X3_276 hM d hal rfl rfl ⟨rfl, by decide +kernel, by decide +kernel, (by decide +kernel : (parseMethodDescriptor yX1_keep.desc).map (fun d => d.parameters.length) = some 3)⟩ hroom rfl hcat hf hp (fun v1 I2 P2 q => by obtain ⟨rfl, rfl, rfl⟩ := q; exact kk)
theorem k_X3_108 (C : Cx K cc RX3 nL ret rm z) {i : Nat} {a0 : Value} {v : Value} {I1 : wI} {P1 : wP} {rmy : Room} (hM : RT (Kl K) yX3_dropAllOf cX3_dropAllOf 5 ((some .int)) rmy (Kg K) z [.ref ((Kg K).2.2 0 i), a0] I P O (dp (some v) I1 P1)) (d : decode cc pc = .ok (.invokevirtual 108, 3)) (hal : wAl z 0 i) (hroom : (rmy.frames + 1 ≤ rm.frames ∧ 8 + (5 + 11) + rmy.locals ≤ rm.locals) ∧ rmy.cells = 0 ∧ rmy.slots = 0) (hcat : (S.map fun v => v.category).sum ≤ 8) (hf : c ≤ rm.cells ∧ n ≤ rm.slots) (hp : pc + 3 = pc') (kk : G K z I1 P1 O c n pc' L (v :: S)) : G K z I P O c n pc L (a0 :: .ref ((Kg K).2.2 0 i) :: S) := g_callV C cv_X3_108 hM d hal rfl rfl ⟨rfl, by decide +kernel, by decide +kernel, (by decide +kernel : (parseMethodDescriptor yX3_dropAllOf.desc).map (fun d => d.parameters.length) = some 1)⟩ hroom rfl hcat hf hp (fun v1 I2 P2 q => by obtain ⟨rfl, rfl, rfl⟩ := q; exact kk)
theorem k_X3_181 (C : Cx K cc RX3 nL ret rm z) {i : Nat} {a0 : Value} {v : Value} {I1 : wI} {P1 : wP} {rmy : Room} (hM : RT (Kl K) yX2_isOf cX2_isOf 2 ((some .boolean)) rmy (Kg K) z [.ref ((Kg K).2.2 2 i), a0] I P O (dp (some v) I1 P1)) (d : decode cc pc = .ok (.invokevirtual 181, 3)) (hal : wAl z 2 i) (hroom : (rmy.frames + 1 ≤ rm.frames ∧ 8 + (2 + 11) + rmy.locals ≤ rm.locals) ∧ rmy.cells = 0 ∧ rmy.slots = 0) (hcat : (S.map fun v => v.category).sum ≤ 8) (hf : c ≤ rm.cells ∧ n ≤ rm.slots) (hp : pc + 3 = pc') (kk : G K z I1 P1 O c n pc' L (v :: S)) : G K z I P O c n pc L (a0 :: .ref ((Kg K).2.2 2 i) :: S) := g_callV C cv_X3_181 hM d hal rfl rfl ⟨rfl, by decide +kernel, by decide +kernel, (by decide +kernel : (parseMethodDescriptor yX2_isOf.desc).map (fun d => d.parameters.length) = some 1)⟩ hroom rfl hcat hf hp (fun v1 I2 P2 q => by obtain ⟨rfl, rfl, rfl⟩ := q; exact kk)
theorem k_X3_192 (C : Cx K cc RX3 nL ret rm z) {i : Nat} {a0 : Value} {I1 : wI} {P1 : wP} {rmy : Room} (hM : RT (Kl K) yX0_tell cX0_tell 2 (none) rmy (Kg K) z [.ref ((Kg K).2.2 3 i), a0] I P O (dp none I1 P1)) (d : decode cc pc = .ok (.invokevirtual 192, 3)) (hal : wAl z 3 i) (hroom : (rmy.frames + 1 ≤ rm.frames ∧ 8 + (2 + 11) + rmy.locals ≤ rm.locals) ∧ rmy.cells = 0 ∧ rmy.slots = 0) (hcat : (S.map fun v => v.category).sum ≤ 8) (hf : c ≤ rm.cells ∧ n ≤ rm.slots) (hp : pc + 3 = pc') (kk : G K z I1 P1 O c n pc' L (S)) : G K z I P O c n pc L (a0 :: .ref ((Kg K).2.2 3 i) :: S) := g_callV C cv_X3_192 hM d hal rfl rfl ⟨rfl, by decide +kernel, by decide +kernel, (by decide +kernel : (parseMethodDescriptor yX0_tell.desc).map (fun d => d.parameters.length) = some 1)⟩ hroom rfl hcat hf hp (fun v1 I2 P2 q => by obtain ⟨rfl, rfl, rfl⟩ := q; exact kk)
theorem k_X3_236 (C : Cx K cc RX3 nL ret rm z) {i : Nat} {a0 : Value} {v : Value} {I1 : wI} {P1 : wP} {rmy : Room} (hM : RT (Kl K) yX3_paidHoursOf cX3_paidHoursOf 5 ((some .int)) rmy (Kg K) z [.ref ((Kg K).2.2 0 i), a0] I P O (dp (some v) I1 P1)) (d : decode cc pc = .ok (.invokevirtual 236, 3)) (hal : wAl z 0 i) (hroom : (rmy.frames + 1 ≤ rm.frames ∧ 8 + (5 + 11) + rmy.locals ≤ rm.locals) ∧ rmy.cells = 0 ∧ rmy.slots = 0) (hcat : (S.map fun v => v.category).sum ≤ 8) (hf : c ≤ rm.cells ∧ n ≤ rm.slots) (hp : pc + 3 = pc') (kk : G K z I1 P1 O c n pc' L (v :: S)) : G K z I P O c n pc L (a0 :: .ref ((Kg K).2.2 0 i) :: S) := g_callV C cv_X3_236 hM d hal rfl rfl ⟨rfl, by decide +kernel, by decide +kernel, (by decide +kernel : (parseMethodDescriptor yX3_paidHoursOf.desc).map (fun d => d.parameters.length) = some 1)⟩ hroom rfl hcat hf hp (fun v1 I2 P2 q => by obtain ⟨rfl, rfl, rfl⟩ := q; exact kk)
theorem k_X3_284 (C : Cx K cc RX3 nL ret rm z) {i : Nat} {a0 a1 : Value} {v : Value} {I1 : wI} {P1 : wP} {rmy : Room} (hM : RT (Kl K) yX1_hoursPaidBy cX1_hoursPaidBy 5 ((some .int)) rmy (Kg K) z [.ref ((Kg K).2.2 1 i), a0, a1] I P O (dp (some v) I1 P1)) (d : decode cc pc = .ok (.invokevirtual 284, 3)) (hal : wAl z 1 i) (hroom : (rmy.frames + 1 ≤ rm.frames ∧ 8 + (5 + 11) + rmy.locals ≤ rm.locals) ∧ rmy.cells = 0 ∧ rmy.slots = 0) (hcat : (S.map fun v => v.category).sum ≤ 8) (hf : c ≤ rm.cells ∧ n ≤ rm.slots) (hp : pc + 3 = pc') (kk : G K z I1 P1 O c n pc' L (v :: S)) : G K z I P O c n pc L (a1 :: a0 :: .ref ((Kg K).2.2 1 i) :: S) := g_callV C cv_X3_284 hM d hal rfl rfl ⟨rfl, by decide +kernel, by decide +kernel, (by decide +kernel : (parseMethodDescriptor yX1_hoursPaidBy.desc).map (fun d => d.parameters.length) = some 2)⟩ hroom rfl hcat hf hp (fun v1 I2 P2 q => by obtain ⟨rfl, rfl, rfl⟩ := q; exact kk)
theorem k_X3_245 (C : Cx K cc RX3 nL ret rm z) {i : Nat} {v : Value} {I1 : wI} {P1 : wP} {rmy : Room} (hM : RT (Kl K) yX0_notices cX0_notices 1 ((some .int)) rmy (Kg K) z [.ref ((Kg K).2.2 3 i)] I P O (dp (some v) I1 P1)) (d : decode cc pc = .ok (.invokevirtual 245, 3)) (hal : wAl z 3 i) (hroom : (rmy.frames + 1 ≤ rm.frames ∧ 8 + (1 + 11) + rmy.locals ≤ rm.locals) ∧ rmy.cells = 0 ∧ rmy.slots = 0) (hcat : (S.map fun v => v.category).sum ≤ 8) (hf : c ≤ rm.cells ∧ n ≤ rm.slots) (hp : pc + 3 = pc') (kk : G K z I1 P1 O c n pc' L (v :: S)) : G K z I P O c n pc L (.ref ((Kg K).2.2 3 i) :: S) := g_callV C cv_X3_245 hM d hal rfl rfl ⟨rfl, by decide +kernel, by decide +kernel, (by decide +kernel : (parseMethodDescriptor yX0_notices.desc).map (fun d => d.parameters.length) = some 0)⟩ hroom rfl hcat hf hp (fun v1 I2 P2 q => by obtain ⟨rfl, rfl, rfl⟩ := q; exact kk)
theorem k_X3_213 (C : Cx K cc RX3 nL ret rm z) {a0 : Value} {v : Value} {I1 : wI} {P1 : wP} {rmy : Room} (hM : RT (Kl K) yX3_isCalendarHour cX3_isCalendarHour 1 ((some .boolean)) rmy (Kg K) z [a0] I P O (dp (some v) I1 P1)) (d : decode cc pc = .ok (.invokestatic 213, 3)) (hroom : (rmy.frames + 1 ≤ rm.frames ∧ 8 + (1 + 11) + rmy.locals ≤ rm.locals) ∧ rmy.cells = 0 ∧ rmy.slots = 0) (hcat : (S.map fun v => v.category).sum ≤ 8) (hf : c ≤ rm.cells ∧ n ≤ rm.slots) (hp : pc + 3 = pc') (kk : G K z I1 P1 O c n pc' L (v :: S)) : G K z I P O c n pc L (a0 :: S) := g_callS C cs_X3_213 hM d ⟨rfl, by decide +kernel, by decide +kernel, (by decide +kernel : (parseMethodDescriptor yX3_isCalendarHour.desc).map (fun d => d.parameters.length) = some 1)⟩ hroom rfl hcat hf hp (fun v1 I2 P2 q => by obtain ⟨rfl, rfl, rfl⟩ := q; exact kk)
theorem k_X3_253 (C : Cx K cc RX3 nL ret rm z) {i : Nat} {a0 a1 : Value} {v : Value} {I1 : wI} {P1 : wP} {rmy : Room} (hM : RT (Kl K) yX1_payer cX1_payer 4 ((some (.object "Hearingpay$Matter"))) rmy (Kg K) z [.ref ((Kg K).2.2 1 i), a0, a1] I P O (dp (some v) I1 P1)) (d : decode cc pc = .ok (.invokevirtual 253, 3)) (hal : wAl z 1 i) (hroom : (rmy.frames + 1 ≤ rm.frames ∧ 8 + (4 + 11) + rmy.locals ≤ rm.locals) ∧ rmy.cells = 0 ∧ rmy.slots = 0) (hcat : (S.map fun v => v.category).sum ≤ 8) (hf : c ≤ rm.cells ∧ n ≤ rm.slots) (hp : pc + 3 = pc') (kk : G K z I1 P1 O c n pc' L (v :: S)) : G K z I P O c n pc L (a1 :: a0 :: .ref ((Kg K).2.2 1 i) :: S) := g_callV C cv_X3_253 hM d hal rfl rfl ⟨rfl, by decide +kernel, by decide +kernel, (by decide +kernel : (parseMethodDescriptor yX1_payer.desc).map (fun d => d.parameters.length) = some 2)⟩ hroom rfl hcat hf hp (fun v1 I2 P2 q => by obtain ⟨rfl, rfl, rfl⟩ := q; exact kk)
theorem k_X3_209 (C : Cx K cc RX3 nL ret rm z) {a0 : Value} {v : Value} {I1 : wI} {P1 : wP} {rmy : Room} (hM : RT (Kl K) yX3_howMany cX3_howMany 1 ((some .int)) rmy (Kg K) z [a0] I P O (dp (some v) I1 P1)) (d : decode cc pc = .ok (.invokestatic 209, 3)) (hroom : (rmy.frames + 1 ≤ rm.frames ∧ 8 + (1 + 11) + rmy.locals ≤ rm.locals) ∧ rmy.cells = 0 ∧ rmy.slots = 0) (hcat : (S.map fun v => v.category).sum ≤ 8) (hf : c ≤ rm.cells ∧ n ≤ rm.slots) (hp : pc + 3 = pc') (kk : G K z I1 P1 O c n pc' L (v :: S)) : G K z I P O c n pc L (a0 :: S) := g_callS C cs_X3_209 hM d ⟨rfl, by decide +kernel, by decide +kernel, (by decide +kernel : (parseMethodDescriptor yX3_howMany.desc).map (fun d => d.parameters.length) = some 1)⟩ hroom rfl hcat hf hp (fun v1 I2 P2 q => by obtain ⟨rfl, rfl, rfl⟩ := q; exact kk)
theorem k_X3_221 (C : Cx K cc RX3 nL ret rm z) {i : Nat} {a0 a1 : Value} {v : Value} {I1 : wI} {P1 : wP} {rmy : Room} (hM : RT (Kl K) yX0_needs cX0_needs 3 ((some .boolean)) rmy (Kg K) z [.ref ((Kg K).2.2 3 i), a0, a1] I P O (dp (some v) I1 P1)) (d : decode cc pc = .ok (.invokevirtual 221, 3)) (hal : wAl z 3 i) (hroom : (rmy.frames + 1 ≤ rm.frames ∧ 8 + (3 + 11) + rmy.locals ≤ rm.locals) ∧ rmy.cells = 0 ∧ rmy.slots = 0) (hcat : (S.map fun v => v.category).sum ≤ 8) (hf : c ≤ rm.cells ∧ n ≤ rm.slots) (hp : pc + 3 = pc') (kk : G K z I1 P1 O c n pc' L (v :: S)) : G K z I P O c n pc L (a1 :: a0 :: .ref ((Kg K).2.2 3 i) :: S) := g_callV C cv_X3_221 hM d hal rfl rfl ⟨rfl, by decide +kernel, by decide +kernel, (by decide +kernel : (parseMethodDescriptor yX0_needs.desc).map (fun d => d.parameters.length) = some 2)⟩ hroom rfl hcat hf hp (fun v1 I2 P2 q => by obtain ⟨rfl, rfl, rfl⟩ := q; exact kk)
end WFields
end
section
section WLeaf
def b2 (b : Bool) : Int32 := bif b then 1 else 0
theorem b2_0 {b : Bool} : b2 b = 0 ↔ b = false := by cases b <;> decide
theorem b2_1 {b : Bool} : ¬ b2 b = 0 ↔ b = true := by cases b <;> decide
theorem b2_n (b : Bool) : narrow .boolean (.int (b2 b)) = .int (b2 b) := by cases b <;> rfl
theorem ii1 (x : Int32) : x + Int32.ofInt 1 = x + 1 := by rw [show Int32.ofInt 1 = 1 from by decide]
def isOp (s : Int32) : Bool := decide (s = 0) || decide (s = 1)
def rT (I : wI) (m : Nat) (now : Int32) : wI := if I 2 m 5 = 3 then upI I 2 m 7 (I 2 m 7 + 1) else if isOp (I 2 m 5) = true ∧ ¬ now < I 2 m 7 then upI I 2 m 5 5 else I
def sA (I : wI) (h : Nat) (r i f : Int32) : wI := upI (upI (upI (upI (upI I 3 h 5 r) 3 h 6 i) 3 h 7 f) 3 h 8 0) 3 h 9 0
def tp (I : wI) (h : Nat) (fr oh : Int32) : Bool := decide (I 3 h 4 = 0) && (!decide (fr + oh ≤ I 3 h 7) && !decide (I 3 h 7 + I 3 h 2 ≤ fr))
def nd (I : wI) (m h : Nat) (what who : Int32) : Bool := if what = 0 then decide (I 3 h 5 = who) else if what = 1 then decide (I 2 m 1 = who) else if what = 2 then (decide (who = I 2 m 2) || decide (who = I 2 m 3)) else decide (I 3 h 6 = who)
def ra (I : wI) (m h m2 : Nat) (r itp : Int32) : Int32 := if nd I m h 0 r = true then 1 else if nd I m h 1 (I 2 m2 1) = true then 2 else if nd I m h 2 (I 2 m2 2) = true ∨ nd I m h 2 (I 2 m2 3) = true then 3 else if ¬ itp = -1 ∧ nd I m h 3 itp = true then 4 else 0
def tl1 (I : wI) (m h : Nat) (p : Int32) : wI := if p = I 2 m 2 then upI I 3 h 8 1 else I
def tl (I : wI) (m h : Nat) (p : Int32) : wI := if p = I 2 m 3 then upI (tl1 I m h p) 3 h 9 1 else tl1 I m h p
def ntc (I : wI) (h : Nat) : Int32 := (if I 3 h 8 = 0 then 0 else 1) + (if I 3 h 9 = 0 then 0 else 1)
def chg (I : wI) (h : Nat) : Int32 := 0 + I 11 h 0 + I 11 h 1 + I 11 h 2 + I 11 h 3
def hE (I : wI) (m h : Nat) : wI := if isOp (I 2 m 5) = true ∧ ¬ I 3 h 8 = 0 ∧ ¬ I 3 h 9 = 0 then upI (upI I 3 h 4 1) 2 m 5 1 else upI I 3 h 4 2
def rg (x : Int32) : Nat := (x &&& 15).toNatClampNeg
theorem rg_of (x : Int32) : ∃ j : Nat, j < 16 ∧ x &&& 15 = nI j := by
  obtain ⟨j, h1, h2⟩ := pk_andE x (m := 15) 4 (by decide)
  exact ⟨j, h1, h2⟩
theorem rg_eq (x : Int32) : x &&& 15 = nI (rg x) := by
  obtain ⟨j, h1, h2⟩ := rg_of x
  unfold rg
  rw [h2, nI_clamp (by omega)]
theorem rg_lt (x : Int32) : rg x < 16 := by
  obtain ⟨j, h1, h2⟩ := rg_of x
  unfold rg
  rw [h2, nI_clamp (by omega)]
  exact h1
def kn (I : wI) (i : Nat) (l : Int32) : Bool := decide ((I 1 i 0 >>> (l &&& 31)) &&& 1 = 1)
def py (I : wI) (P : wP) (i : Nat) (hour now : Int32) : Option Nat := if ¬ hour ≤ now ∧ I 8 i (rg hour) = hour then P 9 i (rg hour) else none
def kpI (I : wI) (i : Nat) (hour amt : Int32) : wI := upI (upI I 8 i (rg hour) hour) 10 i (rg hour) amt
def kpP (P : wP) (i m : Nat) (hour : Int32) : wP := upP P 9 i (rg hour) (some m)
def tkR (I : wI) (P : wP) (i m : Nat) (hour now : Int32) : Int32 := match py I P i hour now with
  | none => I 1 i 1
  | some q => if q = m then 0 else I 10 i (rg hour) / 2
def tkI (I : wI) (P : wP) (i m : Nat) (hour now : Int32) : wI := match py I P i hour now with
  | none => I
  | some q => if q = m then I else upI I 2 q 6 (I 2 q 6 + I 10 i (rg hour) / 2)
def tkP (I : wI) (P : wP) (i : Nat) (hour now : Int32) : wP := match py I P i hour now with
  | none => P
  | some _ => upP P 9 i (rg hour) none
def hpL (I : wI) (P : wP) (i m : Nat) (now : Int32) : Nat → Nat → Int32 → Int32
  | 0, _, x => x
  | n + 1, k, x => hpL I P i m now n (k + 1) (if P 9 i k = some m ∧ ¬ I 8 i k ≤ now then x + 1 else x)
theorem tsw2 (x : Int32) : x = 0 ∨ x = 1 ∨ x = 2 ∨ (x.toInt < 0 ∨ 2 < x.toInt) := by
  by_cases h : x.toInt < 0 ∨ 2 < x.toInt
  · exact Or.inr (Or.inr (Or.inr h))
  · have h3 : x.toInt = 0 ∨ x.toInt = 1 ∨ x.toInt = 2 := by omega
    rcases h3 with h3 | h3 | h3
    · exact Or.inl (Int32.toInt_inj.mp h3)
    · exact Or.inr (Or.inl (Int32.toInt_inj.mp h3))
    · exact Or.inr (Or.inr (Or.inl (Int32.toInt_inj.mp h3)))
set_option maxRecDepth 20000 in
theorem m_X2_isOpen {l : Launch} {g : wG} {z : wZ} {I : wI} {P : wP} {O : wO} {m : Nat} (hm2 : wAl z 2 m) : RT l yX2_isOpen cX2_isOpen 1 ((some .boolean)) { frames := 0, cells := 0, slots := 0, locals := 0 } g z [.ref (g.2.2 2 m)] I P O (dp (some (.int (b2 (isOp (I 2 m 5))))) (I) (P)) := by
  refine RT.of (own := RX2) rfl (by decide +kernel) (Nat.le_of_ble_eq_true rfl) rfl (fun K C hl hg hR => ?_)
  subst hl
  subst hg
  refine g_aload_n (pc' := 1) C dX2_isOpen_0 rfl rfl ?_
  refine f_X2_9 (pc' := 4) C dX2_isOpen_1 (by first | assumption | exact rfl | exact al13 rfl | exact Nat.le_of_ble_eq_true rfl) rfl ?_
  refine g_if_eq (tgt := 15) (pc' := 7) C dX2_isOpen_4 (by decide) rfl (fun c1 => ?_) (fun c1 => ?_)
  ·
    refine g_iconst (v := 1) (pc' := 16) C dX2_isOpen_15 (by decide) rfl ?_
    refine g_goto (tgt := 20) C dX2_isOpen_16 (by decide) ?_
    exact g_zret C hR dX2_isOpen_20 rfl ⟨by simp [b2, isOp, c1], rfl, rfl⟩
  ·
    refine g_aload_n (pc' := 8) C dX2_isOpen_7 rfl rfl ?_
    refine f_X2_9 (pc' := 11) C dX2_isOpen_8 (by first | assumption | exact rfl | exact al13 rfl | exact Nat.le_of_ble_eq_true rfl) rfl ?_
    refine g_iconst (v := 1) (pc' := 12) C dX2_isOpen_11 (by decide) rfl ?_
    refine g_icmp_ne (tgt := 19) (pc' := 15) C dX2_isOpen_12 (by decide) rfl (fun c2 => ?_) (fun c2 => ?_)
    ·
      refine g_iconst (v := 0) (pc' := 20) C dX2_isOpen_19 (by decide) rfl ?_
      exact g_zret C hR dX2_isOpen_20 rfl ⟨by simp [b2, isOp, c1, c2], rfl, rfl⟩
    ·
      refine g_iconst (v := 1) (pc' := 16) C dX2_isOpen_15 (by decide) rfl ?_
      refine g_goto (tgt := 20) C dX2_isOpen_16 (by decide) ?_
      exact g_zret C hR dX2_isOpen_20 rfl ⟨by simp [b2, isOp, c1, c2], rfl, rfl⟩
set_option maxRecDepth 20000 in
theorem m_X2_isOf {l : Launch} {g : wG} {z : wZ} {I : wI} {P : wP} {O : wO} {m : Nat} {x : Int32} (hm2 : wAl z 2 m) : RT l yX2_isOf cX2_isOf 2 ((some .boolean)) { frames := 0, cells := 0, slots := 0, locals := 0 } g z [.ref (g.2.2 2 m), .int x] I P O (dp (some (.int (b2 (decide (x = I 2 m 2) || decide (x = I 2 m 3))))) (I) (P)) := by
  refine RT.of (own := RX2) rfl (by decide +kernel) (Nat.le_of_ble_eq_true rfl) rfl (fun K C hl hg hR => ?_)
  subst hl
  subst hg
  refine g_iload_n (pc' := 1) C dX2_isOf_0 rfl rfl ?_
  refine g_aload_n (pc' := 2) C dX2_isOf_1 rfl rfl ?_
  refine f_X2_24 (pc' := 5) C dX2_isOf_2 (by first | assumption | exact rfl | exact al13 rfl | exact Nat.le_of_ble_eq_true rfl) rfl ?_
  refine g_icmp_eq (tgt := 16) (pc' := 8) C dX2_isOf_5 (by decide) rfl (fun c1 => ?_) (fun c1 => ?_)
  ·
    refine g_iconst (v := 1) (pc' := 17) C dX2_isOf_16 (by decide) rfl ?_
    refine g_goto (tgt := 21) C dX2_isOf_17 (by decide) ?_
    exact g_zret C hR dX2_isOf_21 rfl ⟨by simp [b2, isOp, c1], rfl, rfl⟩
  ·
    refine g_iload_n (pc' := 9) C dX2_isOf_8 rfl rfl ?_
    refine g_aload_n (pc' := 10) C dX2_isOf_9 rfl rfl ?_
    refine f_X2_27 (pc' := 13) C dX2_isOf_10 (by first | assumption | exact rfl | exact al13 rfl | exact Nat.le_of_ble_eq_true rfl) rfl ?_
    refine g_icmp_ne (tgt := 20) (pc' := 16) C dX2_isOf_13 (by decide) rfl (fun c2 => ?_) (fun c2 => ?_)
    ·
      refine g_iconst (v := 0) (pc' := 21) C dX2_isOf_20 (by decide) rfl ?_
      exact g_zret C hR dX2_isOf_21 rfl ⟨by simp [b2, isOp, c1, c2], rfl, rfl⟩
    ·
      refine g_iconst (v := 1) (pc' := 17) C dX2_isOf_16 (by decide) rfl ?_
      refine g_goto (tgt := 21) C dX2_isOf_17 (by decide) ?_
      exact g_zret C hR dX2_isOf_21 rfl ⟨by simp [b2, isOp, c1, c2], rfl, rfl⟩
set_option maxRecDepth 20000 in
theorem m_X2_runTerm {l : Launch} {g : wG} {z : wZ} {I : wI} {P : wP} {O : wO} {m : Nat} {x : Int32} (hm2 : wAl z 2 m) : RT l yX2_runTerm cX2_runTerm 2 (none) { frames := 1, cells := 0, slots := 0, locals := 20 } g z [.ref (g.2.2 2 m), .int x] I P O (dp (none) (rT I m x) (P)) := by
  refine RT.of (own := RX2) rfl (by decide +kernel) (Nat.le_of_ble_eq_true rfl) rfl (fun K C hl hg hR => ?_)
  subst hl
  subst hg
  refine g_aload_n (pc' := 1) C dX2_runTerm_0 rfl rfl ?_
  refine f_X2_9 (pc' := 4) C dX2_runTerm_1 (by first | assumption | exact rfl | exact al13 rfl | exact Nat.le_of_ble_eq_true rfl) rfl ?_
  refine g_iconst (v := 3) (pc' := 5) C dX2_runTerm_4 (by decide) rfl ?_
  refine g_icmp_ne (tgt := 21) (pc' := 8) C dX2_runTerm_5 (by decide) rfl (fun c1 => ?_) (fun c1 => ?_)
  ·
    refine g_aload_n (pc' := 22) C dX2_runTerm_21 rfl rfl ?_
    refine k_X2_36 (pc' := 25) C (m_X2_isOpen hm2) dX2_runTerm_22 (by first | assumption | exact rfl | exact al13 rfl | exact Nat.le_of_ble_eq_true rfl) ⟨⟨Nat.le_of_ble_eq_true rfl, Nat.le_of_ble_eq_true rfl⟩, rfl, rfl⟩ (Nat.le_of_ble_eq_true rfl) ⟨Nat.zero_le _, Nat.zero_le _⟩ rfl ?_
    refine g_if_eq (tgt := 41) (pc' := 28) C dX2_runTerm_25 (by decide) rfl (fun c2 => ?_) (fun c2 => ?_)
    ·
      have c2 := b2_0.mp c2
      exact g_vret C hR dX2_runTerm_41 ⟨rfl, by simp [rT, c1, c2], rfl⟩
    ·
      have c2 := b2_1.mp c2
      refine g_aload_n (pc' := 29) C dX2_runTerm_28 rfl rfl ?_
      refine f_X2_33 (pc' := 32) C dX2_runTerm_29 (by first | assumption | exact rfl | exact al13 rfl | exact Nat.le_of_ble_eq_true rfl) rfl ?_
      refine g_iload_n (pc' := 33) C dX2_runTerm_32 rfl rfl ?_
      refine g_icmp_gt (tgt := 41) (pc' := 36) C dX2_runTerm_33 (by decide) rfl (fun c3 => ?_) (fun c3 => ?_)
      ·
        exact g_vret C hR dX2_runTerm_41 ⟨rfl, by simp [rT, c1, c2, c3], rfl⟩
      ·
        refine g_aload_n (pc' := 37) C dX2_runTerm_36 rfl rfl ?_
        refine g_iconst (v := 5) (pc' := 38) C dX2_runTerm_37 (by decide) rfl ?_
        refine p_X2_9 (pc' := 41) C dX2_runTerm_38 (by first | assumption | exact rfl | exact al13 rfl | exact Nat.le_of_ble_eq_true rfl) rfl ?_
        exact g_vret C hR dX2_runTerm_41 ⟨rfl, by simp [rT, c1, c2, c3], rfl⟩
  ·
    refine g_aload_n (pc' := 9) C dX2_runTerm_8 rfl rfl ?_
    refine g_dup (pc' := 10) C dX2_runTerm_9 rfl rfl ?_
    refine f_X2_33 (pc' := 13) C dX2_runTerm_10 (by first | assumption | exact rfl | exact al13 rfl | exact Nat.le_of_ble_eq_true rfl) rfl ?_
    refine g_iconst (v := 1) (pc' := 14) C dX2_runTerm_13 (by decide) rfl ?_
    refine g_iadd (pc' := 15) C dX2_runTerm_14 rfl ?_
    refine p_X2_33 (pc' := 18) C dX2_runTerm_15 (by first | assumption | exact rfl | exact al13 rfl | exact Nat.le_of_ble_eq_true rfl) rfl ?_
    refine g_goto (tgt := 41) C dX2_runTerm_18 (by decide) ?_
    exact g_vret C hR dX2_runTerm_41 ⟨rfl, by simp [rT, c1], rfl⟩
set_option maxRecDepth 20000 in
theorem m_X0_settleAt {l : Launch} {g : wG} {z : wZ} {I : wI} {P : wP} {O : wO} {h : Nat} {x y w : Int32} (hh : wAl z 3 h) : RT l yX0_settleAt cX0_settleAt 4 (none) { frames := 0, cells := 0, slots := 0, locals := 0 } g z [.ref (g.2.2 3 h), .int x, .int y, .int w] I P O (dp (none) (sA I h x y w) (P)) := by
  refine RT.of (own := RX0) rfl (by decide +kernel) (Nat.le_of_ble_eq_true rfl) rfl (fun K C hl hg hR => ?_)
  subst hl
  subst hg
  refine g_aload_n (pc' := 1) C dX0_settleAt_0 rfl rfl ?_
  refine g_iload_n (pc' := 2) C dX0_settleAt_1 rfl rfl ?_
  refine p_X0_19 (pc' := 5) C dX0_settleAt_2 (by first | assumption | exact rfl | exact al13 rfl | exact Nat.le_of_ble_eq_true rfl) rfl ?_
  refine g_aload_n (pc' := 6) C dX0_settleAt_5 rfl rfl ?_
  refine g_iload_n (pc' := 7) C dX0_settleAt_6 rfl rfl ?_
  refine p_X0_22 (pc' := 10) C dX0_settleAt_7 (by first | assumption | exact rfl | exact al13 rfl | exact Nat.le_of_ble_eq_true rfl) rfl ?_
  refine g_aload_n (pc' := 11) C dX0_settleAt_10 rfl rfl ?_
  refine g_iload_n (pc' := 12) C dX0_settleAt_11 rfl rfl ?_
  refine p_X0_25 (pc' := 15) C dX0_settleAt_12 (by first | assumption | exact rfl | exact al13 rfl | exact Nat.le_of_ble_eq_true rfl) rfl ?_
  refine g_aload_n (pc' := 16) C dX0_settleAt_15 rfl rfl ?_
  refine g_iconst (v := 0) (pc' := 17) C dX0_settleAt_16 (by decide) rfl ?_
  refine p_X0_28 (pc' := 20) C dX0_settleAt_17 (by first | assumption | exact rfl | exact al13 rfl | exact Nat.le_of_ble_eq_true rfl) rfl rfl rfl ?_
  refine g_aload_n (pc' := 21) C dX0_settleAt_20 rfl rfl ?_
  refine g_iconst (v := 0) (pc' := 22) C dX0_settleAt_21 (by decide) rfl ?_
  refine p_X0_32 (pc' := 25) C dX0_settleAt_22 (by first | assumption | exact rfl | exact al13 rfl | exact Nat.le_of_ble_eq_true rfl) rfl rfl rfl ?_
  exact g_vret C hR dX0_settleAt_25 ⟨rfl, rfl, rfl⟩
set_option maxRecDepth 20000 in
theorem m_X0_takesPartOf {l : Launch} {g : wG} {z : wZ} {I : wI} {P : wP} {O : wO} {h : Nat} {x y : Int32} (hh : wAl z 3 h) : RT l yX0_takesPartOf cX0_takesPartOf 3 ((some .boolean)) { frames := 0, cells := 0, slots := 0, locals := 0 } g z [.ref (g.2.2 3 h), .int x, .int y] I P O (dp (some (.int (b2 (tp I h x y)))) (I) (P)) := by
  refine RT.of (own := RX0) rfl (by decide +kernel) (Nat.le_of_ble_eq_true rfl) rfl (fun K C hl hg hR => ?_)
  subst hl
  subst hg
  refine g_aload_n (pc' := 1) C dX0_takesPartOf_0 rfl rfl ?_
  refine f_X0_15 (pc' := 4) C dX0_takesPartOf_1 (by first | assumption | exact rfl | exact al13 rfl | exact Nat.le_of_ble_eq_true rfl) rfl ?_
  refine g_if_ne (tgt := 34) (pc' := 7) C dX0_takesPartOf_4 (by decide) rfl (fun c1 => ?_) (fun c1 => ?_)
  ·
    refine g_iconst (v := 0) (pc' := 35) C dX0_takesPartOf_34 (by decide) rfl ?_
    exact g_zret C hR dX0_takesPartOf_35 rfl ⟨by simp [b2, tp, c1], rfl, rfl⟩
  ·
    refine g_aload_n (pc' := 8) C dX0_takesPartOf_7 rfl rfl ?_
    refine f_X0_25 (pc' := 11) C dX0_takesPartOf_8 (by first | assumption | exact rfl | exact al13 rfl | exact Nat.le_of_ble_eq_true rfl) rfl ?_
    refine g_iload_n (pc' := 12) C dX0_takesPartOf_11 rfl rfl ?_
    refine g_iload_n (pc' := 13) C dX0_takesPartOf_12 rfl rfl ?_
    refine g_iadd (pc' := 14) C dX0_takesPartOf_13 rfl ?_
    refine g_icmp_ge (tgt := 34) (pc' := 17) C dX0_takesPartOf_14 (by decide) rfl (fun c2 => ?_) (fun c2 => ?_)
    ·
      refine g_iconst (v := 0) (pc' := 35) C dX0_takesPartOf_34 (by decide) rfl ?_
      exact g_zret C hR dX0_takesPartOf_35 rfl ⟨by simp [b2, tp, c1, c2], rfl, rfl⟩
    ·
      refine g_iload_n (pc' := 18) C dX0_takesPartOf_17 rfl rfl ?_
      refine g_aload_n (pc' := 19) C dX0_takesPartOf_18 rfl rfl ?_
      refine f_X0_25 (pc' := 22) C dX0_takesPartOf_19 (by first | assumption | exact rfl | exact al13 rfl | exact Nat.le_of_ble_eq_true rfl) rfl ?_
      refine g_aload_n (pc' := 23) C dX0_takesPartOf_22 rfl rfl ?_
      refine f_X0_42 (pc' := 26) C dX0_takesPartOf_23 (by first | assumption | exact rfl | exact al13 rfl | exact Nat.le_of_ble_eq_true rfl) rfl ?_
      refine g_iadd (pc' := 27) C dX0_takesPartOf_26 rfl ?_
      refine g_icmp_ge (tgt := 34) (pc' := 30) C dX0_takesPartOf_27 (by decide) rfl (fun c3 => ?_) (fun c3 => ?_)
      ·
        refine g_iconst (v := 0) (pc' := 35) C dX0_takesPartOf_34 (by decide) rfl ?_
        exact g_zret C hR dX0_takesPartOf_35 rfl ⟨by simp [b2, tp, c1, c2, c3], rfl, rfl⟩
      ·
        refine g_iconst (v := 1) (pc' := 31) C dX0_takesPartOf_30 (by decide) rfl ?_
        refine g_goto (tgt := 35) C dX0_takesPartOf_31 (by decide) ?_
        exact g_zret C hR dX0_takesPartOf_35 rfl ⟨by simp [b2, tp, c1, c2, c3], rfl, rfl⟩
set_option maxRecDepth 20000 in
theorem m_X0_needs {l : Launch} {g : wG} {z : wZ} {I : wI} {P : wP} {O : wO} {m h : Nat} {x y : Int32} (hh : wAl z 3 h) (hm : P 3 h 1 = some m) (hm2 : wAl z 2 m) : RT l yX0_needs cX0_needs 3 ((some .boolean)) { frames := 1, cells := 0, slots := 0, locals := 21 } g z [.ref (g.2.2 3 h), .int x, .int y] I P O (dp (some (.int (b2 (nd I m h x y)))) (I) (P)) := by
  refine RT.of (own := RX0) rfl (by decide +kernel) (Nat.le_of_ble_eq_true rfl) rfl (fun K C hl hg hR => ?_)
  subst hl
  subst hg
  refine g_iload_n (pc' := 1) C dX0_needs_0 rfl rfl ?_
  rcases tsw2 x with hw | hw | hw | hw
  · refine g_tabIn (tgt := 28) C 0 (by rw [hw]; rfl) dX0_needs_1 (by decide) (by decide) rfl (by decide) ?_
    refine g_aload_n (pc' := 29) C dX0_needs_28 rfl rfl ?_
    refine f_X0_19 (pc' := 32) C dX0_needs_29 (by first | assumption | exact rfl | exact al13 rfl | exact Nat.le_of_ble_eq_true rfl) rfl ?_
    refine g_iload_n (pc' := 33) C dX0_needs_32 rfl rfl ?_
    refine g_icmp_ne (tgt := 40) (pc' := 36) C dX0_needs_33 (by decide) rfl (fun c1 => ?_) (fun c1 => ?_)
    ·
      refine g_iconst (v := 0) (pc' := 41) C dX0_needs_40 (by decide) rfl ?_
      exact g_zret C hR dX0_needs_41 rfl ⟨by simp [b2, nd, hw, c1], rfl, rfl⟩
    ·
      refine g_iconst (v := 1) (pc' := 37) C dX0_needs_36 (by decide) rfl ?_
      refine g_goto (tgt := 41) C dX0_needs_37 (by decide) ?_
      exact g_zret C hR dX0_needs_41 rfl ⟨by simp [b2, nd, hw, c1], rfl, rfl⟩
  · refine g_tabIn (tgt := 42) C 1 (by rw [hw]; rfl) dX0_needs_1 (by decide) (by decide) rfl (by decide) ?_
    refine g_aload_n (pc' := 43) C dX0_needs_42 rfl rfl ?_
    refine f_X0_38 (pc' := 46) C hm dX0_needs_43 (by first | assumption | exact rfl | exact al13 rfl | exact Nat.le_of_ble_eq_true rfl) rfl ?_
    refine f_X0_45 (pc' := 49) C dX0_needs_46 (by first | assumption | exact rfl | exact al13 rfl | exact Nat.le_of_ble_eq_true rfl) rfl ?_
    refine g_iload_n (pc' := 50) C dX0_needs_49 rfl rfl ?_
    refine g_icmp_ne (tgt := 57) (pc' := 53) C dX0_needs_50 (by decide) rfl (fun c2 => ?_) (fun c2 => ?_)
    ·
      refine g_iconst (v := 0) (pc' := 58) C dX0_needs_57 (by decide) rfl ?_
      exact g_zret C hR dX0_needs_58 rfl ⟨by simp [b2, nd, hw, c2], rfl, rfl⟩
    ·
      refine g_iconst (v := 1) (pc' := 54) C dX0_needs_53 (by decide) rfl ?_
      refine g_goto (tgt := 58) C dX0_needs_54 (by decide) ?_
      exact g_zret C hR dX0_needs_58 rfl ⟨by simp [b2, nd, hw, c2], rfl, rfl⟩
  · refine g_tabIn (tgt := 59) C 2 (by rw [hw]; rfl) dX0_needs_1 (by decide) (by decide) rfl (by decide) ?_
    refine g_aload_n (pc' := 60) C dX0_needs_59 rfl rfl ?_
    refine f_X0_38 (pc' := 63) C hm dX0_needs_60 (by first | assumption | exact rfl | exact al13 rfl | exact Nat.le_of_ble_eq_true rfl) rfl ?_
    refine g_iload_n (pc' := 64) C dX0_needs_63 rfl rfl ?_
    refine k_X0_50 (pc' := 67) C (m_X2_isOf hm2) dX0_needs_64 (by first | assumption | exact rfl | exact al13 rfl | exact Nat.le_of_ble_eq_true rfl) ⟨⟨Nat.le_of_ble_eq_true rfl, Nat.le_of_ble_eq_true rfl⟩, rfl, rfl⟩ (Nat.le_of_ble_eq_true rfl) ⟨Nat.zero_le _, Nat.zero_le _⟩ rfl ?_
    exact g_zret C hR dX0_needs_67 (b2_n _) ⟨by simp [nd, hw], rfl, rfl⟩
  · have h0 : ¬ x = 0 := fun e => by rw [e] at hw; exact absurd hw (by decide)
    have h1 : ¬ x = 1 := fun e => by rw [e] at hw; exact absurd hw (by decide)
    have h2 : ¬ x = 2 := fun e => by rw [e] at hw; exact absurd hw (by decide)
    refine g_tabOut (tgt := 68) C dX0_needs_1 hw (by decide) ?_
    refine g_aload_n (pc' := 69) C dX0_needs_68 rfl rfl ?_
    refine f_X0_22 (pc' := 72) C dX0_needs_69 (by first | assumption | exact rfl | exact al13 rfl | exact Nat.le_of_ble_eq_true rfl) rfl ?_
    refine g_iload_n (pc' := 73) C dX0_needs_72 rfl rfl ?_
    refine g_icmp_ne (tgt := 80) (pc' := 76) C dX0_needs_73 (by decide) rfl (fun c3 => ?_) (fun c3 => ?_)
    ·
      refine g_iconst (v := 0) (pc' := 81) C dX0_needs_80 (by decide) rfl ?_
      exact g_zret C hR dX0_needs_81 rfl ⟨by simp [b2, nd, h0, h1, h2, c3], rfl, rfl⟩
    ·
      refine g_iconst (v := 1) (pc' := 77) C dX0_needs_76 (by decide) rfl ?_
      refine g_goto (tgt := 81) C dX0_needs_77 (by decide) ?_
      exact g_zret C hR dX0_needs_81 rfl ⟨by simp [b2, nd, h0, h1, h2, c3], rfl, rfl⟩
set_option maxRecDepth 20000 in
theorem m_X0_reasonAgainst {l : Launch} {g : wG} {z : wZ} {I : wI} {P : wP} {O : wO} {m h m2 : Nat} {x y : Int32} (hh : wAl z 3 h) (hm : P 3 h 1 = some m) (hm2 : wAl z 2 m) (hm3 : wAl z 2 m2) : RT l yX0_reasonAgainst cX0_reasonAgainst 4 ((some .int)) { frames := 2, cells := 0, slots := 0, locals := 43 } g z [.ref (g.2.2 3 h), .ref (g.2.2 2 m2), .int x, .int y] I P O (dp (some (.int (ra I m h m2 x y))) (I) (P)) := by
  refine RT.of (own := RX0) rfl (by decide +kernel) (Nat.le_of_ble_eq_true rfl) rfl (fun K C hl hg hR => ?_)
  subst hl
  subst hg
  refine g_aload_n (pc' := 1) C dX0_reasonAgainst_0 rfl rfl ?_
  refine g_iconst (v := 0) (pc' := 2) C dX0_reasonAgainst_1 (by decide) rfl ?_
  refine g_iload_n (pc' := 3) C dX0_reasonAgainst_2 rfl rfl ?_
  refine k_X0_54 (pc' := 6) C (m_X0_needs hh hm hm2) dX0_reasonAgainst_3 (by first | assumption | exact rfl | exact al13 rfl | exact Nat.le_of_ble_eq_true rfl) ⟨⟨Nat.le_of_ble_eq_true rfl, Nat.le_of_ble_eq_true rfl⟩, rfl, rfl⟩ (Nat.le_of_ble_eq_true rfl) ⟨Nat.zero_le _, Nat.zero_le _⟩ rfl ?_
  refine g_if_eq (tgt := 11) (pc' := 9) C dX0_reasonAgainst_6 (by decide) rfl (fun c1 => ?_) (fun c1 => ?_)
  ·
    have c1 := b2_0.mp c1
    refine g_aload_n (pc' := 12) C dX0_reasonAgainst_11 rfl rfl ?_
    refine g_iconst (v := 1) (pc' := 13) C dX0_reasonAgainst_12 (by decide) rfl ?_
    refine g_aload_n (pc' := 14) C dX0_reasonAgainst_13 rfl rfl ?_
    refine f_X0_45 (pc' := 17) C dX0_reasonAgainst_14 (by first | assumption | exact rfl | exact al13 rfl | exact Nat.le_of_ble_eq_true rfl) rfl ?_
    refine k_X0_54 (pc' := 20) C (m_X0_needs hh hm hm2) dX0_reasonAgainst_17 (by first | assumption | exact rfl | exact al13 rfl | exact Nat.le_of_ble_eq_true rfl) ⟨⟨Nat.le_of_ble_eq_true rfl, Nat.le_of_ble_eq_true rfl⟩, rfl, rfl⟩ (Nat.le_of_ble_eq_true rfl) ⟨Nat.zero_le _, Nat.zero_le _⟩ rfl ?_
    refine g_if_eq (tgt := 25) (pc' := 23) C dX0_reasonAgainst_20 (by decide) rfl (fun c2 => ?_) (fun c2 => ?_)
    ·
      have c2 := b2_0.mp c2
      refine g_aload_n (pc' := 26) C dX0_reasonAgainst_25 rfl rfl ?_
      refine g_iconst (v := 2) (pc' := 27) C dX0_reasonAgainst_26 (by decide) rfl ?_
      refine g_aload_n (pc' := 28) C dX0_reasonAgainst_27 rfl rfl ?_
      refine f_X0_58 (pc' := 31) C dX0_reasonAgainst_28 (by first | assumption | exact rfl | exact al13 rfl | exact Nat.le_of_ble_eq_true rfl) rfl ?_
      refine k_X0_54 (pc' := 34) C (m_X0_needs hh hm hm2) dX0_reasonAgainst_31 (by first | assumption | exact rfl | exact al13 rfl | exact Nat.le_of_ble_eq_true rfl) ⟨⟨Nat.le_of_ble_eq_true rfl, Nat.le_of_ble_eq_true rfl⟩, rfl, rfl⟩ (Nat.le_of_ble_eq_true rfl) ⟨Nat.zero_le _, Nat.zero_le _⟩ rfl ?_
      refine g_if_ne (tgt := 49) (pc' := 37) C dX0_reasonAgainst_34 (by decide) rfl (fun c3 => ?_) (fun c3 => ?_)
      ·
        have c3 := b2_1.mp c3
        refine g_iconst (v := 3) (pc' := 50) C dX0_reasonAgainst_49 (by decide) rfl ?_
        exact g_iret C hR dX0_reasonAgainst_50 ⟨by simp [ra, c1, c2, c3], rfl, rfl⟩
      ·
        have c3 := b2_0.mp c3
        refine g_aload_n (pc' := 38) C dX0_reasonAgainst_37 rfl rfl ?_
        refine g_iconst (v := 2) (pc' := 39) C dX0_reasonAgainst_38 (by decide) rfl ?_
        refine g_aload_n (pc' := 40) C dX0_reasonAgainst_39 rfl rfl ?_
        refine f_X0_61 (pc' := 43) C dX0_reasonAgainst_40 (by first | assumption | exact rfl | exact al13 rfl | exact Nat.le_of_ble_eq_true rfl) rfl ?_
        refine k_X0_54 (pc' := 46) C (m_X0_needs hh hm hm2) dX0_reasonAgainst_43 (by first | assumption | exact rfl | exact al13 rfl | exact Nat.le_of_ble_eq_true rfl) ⟨⟨Nat.le_of_ble_eq_true rfl, Nat.le_of_ble_eq_true rfl⟩, rfl, rfl⟩ (Nat.le_of_ble_eq_true rfl) ⟨Nat.zero_le _, Nat.zero_le _⟩ rfl ?_
        refine g_if_eq (tgt := 51) (pc' := 49) C dX0_reasonAgainst_46 (by decide) rfl (fun c4 => ?_) (fun c4 => ?_)
        ·
          have c4 := b2_0.mp c4
          refine g_iload_n (pc' := 52) C dX0_reasonAgainst_51 rfl rfl ?_
          refine g_iconst (v := (-1)) (pc' := 53) C dX0_reasonAgainst_52 (by decide) rfl ?_
          refine g_icmp_eq (tgt := 69) (pc' := 56) C dX0_reasonAgainst_53 (by decide) rfl (fun c5 => ?_) (fun c5 => ?_)
          ·
            refine g_iconst (v := 0) (pc' := 70) C dX0_reasonAgainst_69 (by decide) rfl ?_
            exact g_iret C hR dX0_reasonAgainst_70 ⟨by simp [ra, c1, c2, c3, c4, c5], rfl, rfl⟩
          ·
            refine g_aload_n (pc' := 57) C dX0_reasonAgainst_56 rfl rfl ?_
            refine g_iconst (v := 3) (pc' := 58) C dX0_reasonAgainst_57 (by decide) rfl ?_
            refine g_iload_n (pc' := 59) C dX0_reasonAgainst_58 rfl rfl ?_
            refine k_X0_54 (pc' := 62) C (m_X0_needs hh hm hm2) dX0_reasonAgainst_59 (by first | assumption | exact rfl | exact al13 rfl | exact Nat.le_of_ble_eq_true rfl) ⟨⟨Nat.le_of_ble_eq_true rfl, Nat.le_of_ble_eq_true rfl⟩, rfl, rfl⟩ (Nat.le_of_ble_eq_true rfl) ⟨Nat.zero_le _, Nat.zero_le _⟩ rfl ?_
            refine g_if_eq (tgt := 69) (pc' := 65) C dX0_reasonAgainst_62 (by decide) rfl (fun c6 => ?_) (fun c6 => ?_)
            ·
              have c6 := b2_0.mp c6
              refine g_iconst (v := 0) (pc' := 70) C dX0_reasonAgainst_69 (by decide) rfl ?_
              exact g_iret C hR dX0_reasonAgainst_70 ⟨by simp [ra, c1, c2, c3, c4, c5, c6], rfl, rfl⟩
            ·
              have c6 := b2_1.mp c6
              refine g_iconst (v := 4) (pc' := 66) C dX0_reasonAgainst_65 (by decide) rfl ?_
              refine g_goto (tgt := 70) C dX0_reasonAgainst_66 (by decide) ?_
              exact g_iret C hR dX0_reasonAgainst_70 ⟨by simp [ra, c1, c2, c3, c4, c5, c6], rfl, rfl⟩
        ·
          have c4 := b2_1.mp c4
          refine g_iconst (v := 3) (pc' := 50) C dX0_reasonAgainst_49 (by decide) rfl ?_
          exact g_iret C hR dX0_reasonAgainst_50 ⟨by simp [ra, c1, c2, c3, c4], rfl, rfl⟩
    ·
      have c2 := b2_1.mp c2
      refine g_iconst (v := 2) (pc' := 24) C dX0_reasonAgainst_23 (by decide) rfl ?_
      exact g_iret C hR dX0_reasonAgainst_24 ⟨by simp [ra, c1, c2], rfl, rfl⟩
  ·
    have c1 := b2_1.mp c1
    refine g_iconst (v := 1) (pc' := 10) C dX0_reasonAgainst_9 (by decide) rfl ?_
    exact g_iret C hR dX0_reasonAgainst_10 ⟨by simp [ra, c1], rfl, rfl⟩
set_option maxRecDepth 20000 in
theorem m_X0_tell {l : Launch} {g : wG} {z : wZ} {I : wI} {P : wP} {O : wO} {m h : Nat} {x : Int32} (hh : wAl z 3 h) (hm : P 3 h 1 = some m) (hm2 : wAl z 2 m) : RT l yX0_tell cX0_tell 2 (none) { frames := 0, cells := 0, slots := 0, locals := 0 } g z [.ref (g.2.2 3 h), .int x] I P O (dp (none) (tl I m h x) (P)) := by
  refine RT.of (own := RX0) rfl (by decide +kernel) (Nat.le_of_ble_eq_true rfl) rfl (fun K C hl hg hR => ?_)
  subst hl
  subst hg
  refine g_iload_n (pc' := 1) C dX0_tell_0 rfl rfl ?_
  refine g_aload_n (pc' := 2) C dX0_tell_1 rfl rfl ?_
  refine f_X0_38 (pc' := 5) C hm dX0_tell_2 (by first | assumption | exact rfl | exact al13 rfl | exact Nat.le_of_ble_eq_true rfl) rfl ?_
  refine f_X0_58 (pc' := 8) C dX0_tell_5 (by first | assumption | exact rfl | exact al13 rfl | exact Nat.le_of_ble_eq_true rfl) rfl ?_
  refine g_icmp_ne (tgt := 16) (pc' := 11) C dX0_tell_8 (by decide) rfl (fun c1 => ?_) (fun c1 => ?_)
  ·
    refine g_iload_n (pc' := 17) C dX0_tell_16 rfl rfl ?_
    refine g_aload_n (pc' := 18) C dX0_tell_17 rfl rfl ?_
    refine f_X0_38 (pc' := 21) C hm dX0_tell_18 (by first | assumption | exact rfl | exact al13 rfl | exact Nat.le_of_ble_eq_true rfl) rfl ?_
    refine f_X0_61 (pc' := 24) C dX0_tell_21 (by first | assumption | exact rfl | exact al13 rfl | exact Nat.le_of_ble_eq_true rfl) rfl ?_
    refine g_icmp_ne (tgt := 32) (pc' := 27) C dX0_tell_24 (by decide) rfl (fun c2 => ?_) (fun c2 => ?_)
    ·
      exact g_vret C hR dX0_tell_32 ⟨rfl, by (try simp [upI_at] at c2); unfold tl tl1; (repeat' split) <;> first | rfl | contradiction | (exfalso; simp_all), rfl⟩
    ·
      refine g_aload_n (pc' := 28) C dX0_tell_27 rfl rfl ?_
      refine g_iconst (v := 1) (pc' := 29) C dX0_tell_28 (by decide) rfl ?_
      refine p_X0_32 (pc' := 32) C dX0_tell_29 (by first | assumption | exact rfl | exact al13 rfl | exact Nat.le_of_ble_eq_true rfl) rfl rfl rfl ?_
      exact g_vret C hR dX0_tell_32 ⟨rfl, by (try simp [upI_at] at c2); unfold tl tl1; (repeat' split) <;> first | rfl | contradiction | (exfalso; simp_all), rfl⟩
  ·
    refine g_aload_n (pc' := 12) C dX0_tell_11 rfl rfl ?_
    refine g_iconst (v := 1) (pc' := 13) C dX0_tell_12 (by decide) rfl ?_
    refine p_X0_28 (pc' := 16) C dX0_tell_13 (by first | assumption | exact rfl | exact al13 rfl | exact Nat.le_of_ble_eq_true rfl) rfl rfl rfl ?_
    refine g_iload_n (pc' := 17) C dX0_tell_16 rfl rfl ?_
    refine g_aload_n (pc' := 18) C dX0_tell_17 rfl rfl ?_
    refine f_X0_38 (pc' := 21) C hm dX0_tell_18 (by first | assumption | exact rfl | exact al13 rfl | exact Nat.le_of_ble_eq_true rfl) rfl ?_
    refine f_X0_61 (pc' := 24) C dX0_tell_21 (by first | assumption | exact rfl | exact al13 rfl | exact Nat.le_of_ble_eq_true rfl) rfl ?_
    refine g_icmp_ne (tgt := 32) (pc' := 27) C dX0_tell_24 (by decide) rfl (fun c3 => ?_) (fun c3 => ?_)
    ·
      exact g_vret C hR dX0_tell_32 ⟨rfl, by (try simp [upI_at] at c3); unfold tl tl1; (repeat' split) <;> first | rfl | contradiction | (exfalso; simp_all), rfl⟩
    ·
      refine g_aload_n (pc' := 28) C dX0_tell_27 rfl rfl ?_
      refine g_iconst (v := 1) (pc' := 29) C dX0_tell_28 (by decide) rfl ?_
      refine p_X0_32 (pc' := 32) C dX0_tell_29 (by first | assumption | exact rfl | exact al13 rfl | exact Nat.le_of_ble_eq_true rfl) rfl rfl rfl ?_
      exact g_vret C hR dX0_tell_32 ⟨rfl, by (try simp [upI_at] at c3); unfold tl tl1; (repeat' split) <;> first | rfl | contradiction | (exfalso; simp_all), rfl⟩
set_option maxRecDepth 20000 in
theorem m_X0_notices {l : Launch} {g : wG} {z : wZ} {I : wI} {P : wP} {O : wO} {h : Nat} (hh : wAl z 3 h) : RT l yX0_notices cX0_notices 1 ((some .int)) { frames := 0, cells := 0, slots := 0, locals := 0 } g z [.ref (g.2.2 3 h)] I P O (dp (some (.int (ntc I h))) (I) (P)) := by
  refine RT.of (own := RX0) rfl (by decide +kernel) (Nat.le_of_ble_eq_true rfl) rfl (fun K C hl hg hR => ?_)
  subst hl
  subst hg
  refine g_aload_n (pc' := 1) C dX0_notices_0 rfl rfl ?_
  refine f_X0_28 (pc' := 4) C dX0_notices_1 (by first | assumption | exact rfl | exact al13 rfl | exact Nat.le_of_ble_eq_true rfl) rfl ?_
  refine g_if_eq (tgt := 11) (pc' := 7) C dX0_notices_4 (by decide) rfl (fun c1 => ?_) (fun c1 => ?_)
  ·
    refine g_iconst (v := 0) (pc' := 12) C dX0_notices_11 (by decide) rfl ?_
    refine g_aload_n (pc' := 13) C dX0_notices_12 rfl rfl ?_
    refine f_X0_32 (pc' := 16) C dX0_notices_13 (by first | assumption | exact rfl | exact al13 rfl | exact Nat.le_of_ble_eq_true rfl) rfl ?_
    refine g_if_eq (tgt := 23) (pc' := 19) C dX0_notices_16 (by decide) rfl (fun c2 => ?_) (fun c2 => ?_)
    ·
      refine g_iconst (v := 0) (pc' := 24) C dX0_notices_23 (by decide) rfl ?_
      refine g_iadd (pc' := 25) C dX0_notices_24 rfl ?_
      exact g_iret C hR dX0_notices_25 ⟨by simp [ntc, c1, c2], rfl, rfl⟩
    ·
      refine g_iconst (v := 1) (pc' := 20) C dX0_notices_19 (by decide) rfl ?_
      refine g_goto (tgt := 24) C dX0_notices_20 (by decide) ?_
      refine g_iadd (pc' := 25) C dX0_notices_24 rfl ?_
      exact g_iret C hR dX0_notices_25 ⟨by simp [ntc, c1, c2], rfl, rfl⟩
  ·
    refine g_iconst (v := 1) (pc' := 8) C dX0_notices_7 (by decide) rfl ?_
    refine g_goto (tgt := 12) C dX0_notices_8 (by decide) ?_
    refine g_aload_n (pc' := 13) C dX0_notices_12 rfl rfl ?_
    refine f_X0_32 (pc' := 16) C dX0_notices_13 (by first | assumption | exact rfl | exact al13 rfl | exact Nat.le_of_ble_eq_true rfl) rfl ?_
    refine g_if_eq (tgt := 23) (pc' := 19) C dX0_notices_16 (by decide) rfl (fun c3 => ?_) (fun c3 => ?_)
    ·
      refine g_iconst (v := 0) (pc' := 24) C dX0_notices_23 (by decide) rfl ?_
      refine g_iadd (pc' := 25) C dX0_notices_24 rfl ?_
      exact g_iret C hR dX0_notices_25 ⟨by simp [ntc, c1, c3], rfl, rfl⟩
    ·
      refine g_iconst (v := 1) (pc' := 20) C dX0_notices_19 (by decide) rfl ?_
      refine g_goto (tgt := 24) C dX0_notices_20 (by decide) ?_
      refine g_iadd (pc' := 25) C dX0_notices_24 rfl ?_
      exact g_iret C hR dX0_notices_25 ⟨by simp [ntc, c1, c3], rfl, rfl⟩
set_option maxRecDepth 20000 in
theorem m_X0_charged {l : Launch} {g : wG} {z : wZ} {I : wI} {P : wP} {O : wO} {h : Nat} (hh : wAl z 3 h) : RT l yX0_charged cX0_charged 3 ((some .int)) { frames := 0, cells := 0, slots := 0, locals := 0 } g z [.ref (g.2.2 3 h)] I P O (dp (some (.int (chg I h))) (I) (P)) := by
  refine RT.of (own := RX0) rfl (by decide +kernel) (Nat.le_of_ble_eq_true rfl) rfl (fun K C hl hg hR => ?_)
  subst hl
  subst hg
  refine g_iconst (v := 0) (pc' := 1) C dX0_charged_0 (by decide) rfl ?_
  refine g_istore_n (pc' := 2) C dX0_charged_1 rfl rfl ?_
  refine g_iconst (v := 0) (pc' := 3) C dX0_charged_2 (by decide) rfl ?_
  refine g_istore_n (pc' := 4) C dX0_charged_3 rfl rfl ?_
  refine g_iload_n (pc' := 5) C dX0_charged_4 rfl rfl ?_
  refine g_aload_n (pc' := 6) C dX0_charged_5 rfl rfl ?_
  refine f_X0_9 (pc' := 9) C dX0_charged_6 (by first | assumption | exact rfl | exact al13 rfl | exact Nat.le_of_ble_eq_true rfl) rfl ?_
  refine g_alen (pc' := 10) (v := 4) (t0 := 0) C dX0_charged_9 (by first | assumption | exact rfl | exact al13 rfl | exact Nat.le_of_ble_eq_true rfl) rfl rfl rfl rfl ?_
  refine g_icmp_ge (tgt := 28) (pc' := 13) C dX0_charged_10 (by decide) rfl (fun c1 => absurd c1 (by decide)) (fun c1 => ?_)
  refine g_iload_n (pc' := 14) C dX0_charged_13 rfl rfl ?_
  refine g_aload_n (pc' := 15) C dX0_charged_14 rfl rfl ?_
  refine f_X0_9 (pc' := 18) C dX0_charged_15 (by first | assumption | exact rfl | exact al13 rfl | exact Nat.le_of_ble_eq_true rfl) rfl ?_
  refine g_iload_n (pc' := 19) C dX0_charged_18 rfl rfl ?_
  refine g_iald (pc' := 20) C (0) (by decide) (by decide) dX0_charged_19 (by first | assumption | exact rfl | exact al13 rfl | exact Nat.le_of_ble_eq_true rfl) rfl rfl rfl ?_
  refine g_iadd (pc' := 21) C dX0_charged_20 rfl ?_
  refine g_istore_n (pc' := 22) C dX0_charged_21 rfl rfl ?_
  refine g_iinc (v := 1) (pc' := 25) C dX0_charged_22 rfl (by decide) rfl rfl ?_
  refine g_goto (tgt := 4) C dX0_charged_25 (by decide) ?_
  refine g_iload_n (pc' := 5) C dX0_charged_4 rfl rfl ?_
  refine g_aload_n (pc' := 6) C dX0_charged_5 rfl rfl ?_
  refine f_X0_9 (pc' := 9) C dX0_charged_6 (by first | assumption | exact rfl | exact al13 rfl | exact Nat.le_of_ble_eq_true rfl) rfl ?_
  refine g_alen (pc' := 10) (v := 4) (t0 := 0) C dX0_charged_9 (by first | assumption | exact rfl | exact al13 rfl | exact Nat.le_of_ble_eq_true rfl) rfl rfl rfl rfl ?_
  refine g_icmp_ge (tgt := 28) (pc' := 13) C dX0_charged_10 (by decide) rfl (fun c2 => absurd c2 (by decide)) (fun c2 => ?_)
  refine g_iload_n (pc' := 14) C dX0_charged_13 rfl rfl ?_
  refine g_aload_n (pc' := 15) C dX0_charged_14 rfl rfl ?_
  refine f_X0_9 (pc' := 18) C dX0_charged_15 (by first | assumption | exact rfl | exact al13 rfl | exact Nat.le_of_ble_eq_true rfl) rfl ?_
  refine g_iload_n (pc' := 19) C dX0_charged_18 rfl rfl ?_
  refine g_iald (pc' := 20) C (1) (by decide) (by decide) dX0_charged_19 (by first | assumption | exact rfl | exact al13 rfl | exact Nat.le_of_ble_eq_true rfl) rfl rfl rfl ?_
  refine g_iadd (pc' := 21) C dX0_charged_20 rfl ?_
  refine g_istore_n (pc' := 22) C dX0_charged_21 rfl rfl ?_
  refine g_iinc (v := 2) (pc' := 25) C dX0_charged_22 rfl (by decide) rfl rfl ?_
  refine g_goto (tgt := 4) C dX0_charged_25 (by decide) ?_
  refine g_iload_n (pc' := 5) C dX0_charged_4 rfl rfl ?_
  refine g_aload_n (pc' := 6) C dX0_charged_5 rfl rfl ?_
  refine f_X0_9 (pc' := 9) C dX0_charged_6 (by first | assumption | exact rfl | exact al13 rfl | exact Nat.le_of_ble_eq_true rfl) rfl ?_
  refine g_alen (pc' := 10) (v := 4) (t0 := 0) C dX0_charged_9 (by first | assumption | exact rfl | exact al13 rfl | exact Nat.le_of_ble_eq_true rfl) rfl rfl rfl rfl ?_
  refine g_icmp_ge (tgt := 28) (pc' := 13) C dX0_charged_10 (by decide) rfl (fun c3 => absurd c3 (by decide)) (fun c3 => ?_)
  refine g_iload_n (pc' := 14) C dX0_charged_13 rfl rfl ?_
  refine g_aload_n (pc' := 15) C dX0_charged_14 rfl rfl ?_
  refine f_X0_9 (pc' := 18) C dX0_charged_15 (by first | assumption | exact rfl | exact al13 rfl | exact Nat.le_of_ble_eq_true rfl) rfl ?_
  refine g_iload_n (pc' := 19) C dX0_charged_18 rfl rfl ?_
  refine g_iald (pc' := 20) C (2) (by decide) (by decide) dX0_charged_19 (by first | assumption | exact rfl | exact al13 rfl | exact Nat.le_of_ble_eq_true rfl) rfl rfl rfl ?_
  refine g_iadd (pc' := 21) C dX0_charged_20 rfl ?_
  refine g_istore_n (pc' := 22) C dX0_charged_21 rfl rfl ?_
  refine g_iinc (v := 3) (pc' := 25) C dX0_charged_22 rfl (by decide) rfl rfl ?_
  refine g_goto (tgt := 4) C dX0_charged_25 (by decide) ?_
  refine g_iload_n (pc' := 5) C dX0_charged_4 rfl rfl ?_
  refine g_aload_n (pc' := 6) C dX0_charged_5 rfl rfl ?_
  refine f_X0_9 (pc' := 9) C dX0_charged_6 (by first | assumption | exact rfl | exact al13 rfl | exact Nat.le_of_ble_eq_true rfl) rfl ?_
  refine g_alen (pc' := 10) (v := 4) (t0 := 0) C dX0_charged_9 (by first | assumption | exact rfl | exact al13 rfl | exact Nat.le_of_ble_eq_true rfl) rfl rfl rfl rfl ?_
  refine g_icmp_ge (tgt := 28) (pc' := 13) C dX0_charged_10 (by decide) rfl (fun c4 => absurd c4 (by decide)) (fun c4 => ?_)
  refine g_iload_n (pc' := 14) C dX0_charged_13 rfl rfl ?_
  refine g_aload_n (pc' := 15) C dX0_charged_14 rfl rfl ?_
  refine f_X0_9 (pc' := 18) C dX0_charged_15 (by first | assumption | exact rfl | exact al13 rfl | exact Nat.le_of_ble_eq_true rfl) rfl ?_
  refine g_iload_n (pc' := 19) C dX0_charged_18 rfl rfl ?_
  refine g_iald (pc' := 20) C (3) (by decide) (by decide) dX0_charged_19 (by first | assumption | exact rfl | exact al13 rfl | exact Nat.le_of_ble_eq_true rfl) rfl rfl rfl ?_
  refine g_iadd (pc' := 21) C dX0_charged_20 rfl ?_
  refine g_istore_n (pc' := 22) C dX0_charged_21 rfl rfl ?_
  refine g_iinc (v := 4) (pc' := 25) C dX0_charged_22 rfl (by decide) rfl rfl ?_
  refine g_goto (tgt := 4) C dX0_charged_25 (by decide) ?_
  refine g_iload_n (pc' := 5) C dX0_charged_4 rfl rfl ?_
  refine g_aload_n (pc' := 6) C dX0_charged_5 rfl rfl ?_
  refine f_X0_9 (pc' := 9) C dX0_charged_6 (by first | assumption | exact rfl | exact al13 rfl | exact Nat.le_of_ble_eq_true rfl) rfl ?_
  refine g_alen (pc' := 10) (v := 4) (t0 := 0) C dX0_charged_9 (by first | assumption | exact rfl | exact al13 rfl | exact Nat.le_of_ble_eq_true rfl) rfl rfl rfl rfl ?_
  refine g_icmp_ge (tgt := 28) (pc' := 13) C dX0_charged_10 (by decide) rfl (fun c5 => ?_) (fun c5 => absurd (by decide) c5)
  refine g_iload_n (pc' := 29) C dX0_charged_28 rfl rfl ?_
  exact g_iret C hR dX0_charged_29 ⟨rfl, rfl, rfl⟩
set_option maxRecDepth 20000 in
theorem m_X0_end {l : Launch} {g : wG} {z : wZ} {I : wI} {P : wP} {O : wO} {m h : Nat} (hh : wAl z 3 h) (hm : P 3 h 1 = some m) (hm2 : wAl z 2 m) : RT l yX0_end cX0_end 1 (none) { frames := 1, cells := 0, slots := 0, locals := 20 } g z [.ref (g.2.2 3 h)] I P O (dp (none) (hE I m h) (P)) := by
  refine RT.of (own := RX0) rfl (by decide +kernel) (Nat.le_of_ble_eq_true rfl) rfl (fun K C hl hg hR => ?_)
  subst hl
  subst hg
  refine g_aload_n (pc' := 1) C dX0_end_0 rfl rfl ?_
  refine f_X0_38 (pc' := 4) C hm dX0_end_1 (by first | assumption | exact rfl | exact al13 rfl | exact Nat.le_of_ble_eq_true rfl) rfl ?_
  refine k_X0_64 (pc' := 7) C (m_X2_isOpen hm2) dX0_end_4 (by first | assumption | exact rfl | exact al13 rfl | exact Nat.le_of_ble_eq_true rfl) ⟨⟨Nat.le_of_ble_eq_true rfl, Nat.le_of_ble_eq_true rfl⟩, rfl, rfl⟩ (Nat.le_of_ble_eq_true rfl) ⟨Nat.zero_le _, Nat.zero_le _⟩ rfl ?_
  refine g_if_eq (tgt := 40) (pc' := 10) C dX0_end_7 (by decide) rfl (fun c1 => ?_) (fun c1 => ?_)
  ·
    have c1 := b2_0.mp c1
    refine g_aload_n (pc' := 41) C dX0_end_40 rfl rfl ?_
    refine g_iconst (v := 2) (pc' := 42) C dX0_end_41 (by decide) rfl ?_
    refine p_X0_15 (pc' := 45) C dX0_end_42 (by first | assumption | exact rfl | exact al13 rfl | exact Nat.le_of_ble_eq_true rfl) rfl ?_
    exact g_vret C hR dX0_end_45 ⟨rfl, by simp [hE, c1], rfl⟩
  ·
    have c1 := b2_1.mp c1
    refine g_aload_n (pc' := 11) C dX0_end_10 rfl rfl ?_
    refine f_X0_28 (pc' := 14) C dX0_end_11 (by first | assumption | exact rfl | exact al13 rfl | exact Nat.le_of_ble_eq_true rfl) rfl ?_
    refine g_if_eq (tgt := 40) (pc' := 17) C dX0_end_14 (by decide) rfl (fun c2 => ?_) (fun c2 => ?_)
    ·
      refine g_aload_n (pc' := 41) C dX0_end_40 rfl rfl ?_
      refine g_iconst (v := 2) (pc' := 42) C dX0_end_41 (by decide) rfl ?_
      refine p_X0_15 (pc' := 45) C dX0_end_42 (by first | assumption | exact rfl | exact al13 rfl | exact Nat.le_of_ble_eq_true rfl) rfl ?_
      exact g_vret C hR dX0_end_45 ⟨rfl, by simp [hE, c1, c2], rfl⟩
    ·
      refine g_aload_n (pc' := 18) C dX0_end_17 rfl rfl ?_
      refine f_X0_32 (pc' := 21) C dX0_end_18 (by first | assumption | exact rfl | exact al13 rfl | exact Nat.le_of_ble_eq_true rfl) rfl ?_
      refine g_if_eq (tgt := 40) (pc' := 24) C dX0_end_21 (by decide) rfl (fun c3 => ?_) (fun c3 => ?_)
      ·
        refine g_aload_n (pc' := 41) C dX0_end_40 rfl rfl ?_
        refine g_iconst (v := 2) (pc' := 42) C dX0_end_41 (by decide) rfl ?_
        refine p_X0_15 (pc' := 45) C dX0_end_42 (by first | assumption | exact rfl | exact al13 rfl | exact Nat.le_of_ble_eq_true rfl) rfl ?_
        exact g_vret C hR dX0_end_45 ⟨rfl, by simp [hE, c1, c2, c3], rfl⟩
      ·
        refine g_aload_n (pc' := 25) C dX0_end_24 rfl rfl ?_
        refine g_iconst (v := 1) (pc' := 26) C dX0_end_25 (by decide) rfl ?_
        refine p_X0_15 (pc' := 29) C dX0_end_26 (by first | assumption | exact rfl | exact al13 rfl | exact Nat.le_of_ble_eq_true rfl) rfl ?_
        refine g_aload_n (pc' := 30) C dX0_end_29 rfl rfl ?_
        refine f_X0_38 (pc' := 33) C hm dX0_end_30 (by first | assumption | exact rfl | exact al13 rfl | exact Nat.le_of_ble_eq_true rfl) rfl ?_
        refine g_iconst (v := 1) (pc' := 34) C dX0_end_33 (by decide) rfl ?_
        refine p_X0_68 (pc' := 37) C dX0_end_34 (by first | assumption | exact rfl | exact al13 rfl | exact Nat.le_of_ble_eq_true rfl) rfl ?_
        refine g_goto (tgt := 45) C dX0_end_37 (by decide) ?_
        exact g_vret C hR dX0_end_45 ⟨rfl, by simp [hE, c1, c2, c3], rfl⟩
set_option maxRecDepth 20000 in
theorem m_X1_placeOf {l : Launch} {g : wG} {z : wZ} {I : wI} {P : wP} {O : wO} {x : Int32} : RT l yX1_placeOf cX1_placeOf 1 ((some .int)) { frames := 0, cells := 0, slots := 0, locals := 0 } g z [.int x] I P O (dp (some (.int (x &&& 15))) (I) (P)) := by
  refine RT.of (own := RX1) rfl (by decide +kernel) (Nat.le_of_ble_eq_true rfl) rfl (fun K C hl hg hR => ?_)
  subst hl
  subst hg
  refine g_iload_n (pc' := 1) C dX1_placeOf_0 rfl rfl ?_
  refine g_bipush (v := 15) (pc' := 3) C dX1_placeOf_1 (by decide) rfl ?_
  refine g_iand (pc' := 4) C dX1_placeOf_3 rfl ?_
  exact g_iret C hR dX1_placeOf_4 ⟨rfl, rfl, rfl⟩
set_option maxRecDepth 20000 in
theorem m_X1_knows {l : Launch} {g : wG} {z : wZ} {I : wI} {P : wP} {O : wO} {i : Nat} {x : Int32} (hi : wAl z 1 i) : RT l yX1_knows cX1_knows 2 ((some .boolean)) { frames := 0, cells := 0, slots := 0, locals := 0 } g z [.ref (g.2.2 1 i), .int x] I P O (dp (some (.int (b2 (kn I i x)))) (I) (P)) := by
  refine RT.of (own := RX1) rfl (by decide +kernel) (Nat.le_of_ble_eq_true rfl) rfl (fun K C hl hg hR => ?_)
  subst hl
  subst hg
  refine g_aload_n (pc' := 1) C dX1_knows_0 rfl rfl ?_
  refine f_X1_9 (pc' := 4) C dX1_knows_1 (by first | assumption | exact rfl | exact al13 rfl | exact Nat.le_of_ble_eq_true rfl) rfl ?_
  refine g_iload_n (pc' := 5) C dX1_knows_4 rfl rfl ?_
  refine g_ishr (pc' := 6) C dX1_knows_5 rfl ?_
  refine g_iconst (v := 1) (pc' := 7) C dX1_knows_6 (by decide) rfl ?_
  refine g_iand (pc' := 8) C dX1_knows_7 rfl ?_
  refine g_iconst (v := 1) (pc' := 9) C dX1_knows_8 (by decide) rfl ?_
  refine g_icmp_ne (tgt := 16) (pc' := 12) C dX1_knows_9 (by decide) rfl (fun c1 => ?_) (fun c1 => ?_)
  ·
    refine g_iconst (v := 0) (pc' := 17) C dX1_knows_16 (by decide) rfl ?_
    exact g_zret C hR dX1_knows_17 rfl ⟨by simp [b2, kn, c1], rfl, rfl⟩
  ·
    refine g_iconst (v := 1) (pc' := 13) C dX1_knows_12 (by decide) rfl ?_
    refine g_goto (tgt := 17) C dX1_knows_13 (by decide) ?_
    exact g_zret C hR dX1_knows_17 rfl ⟨by simp [b2, kn, c1], rfl, rfl⟩
set_option maxRecDepth 20000 in
theorem m_X1_payer {l : Launch} {g : wG} {z : wZ} {I : wI} {P : wP} {O : wO} {i : Nat} {x y : Int32} (hi : wAl z 1 i) : RT l yX1_payer cX1_payer 4 ((some (.object "Hearingpay$Matter"))) { frames := 1, cells := 0, slots := 0, locals := 20 } g z [.ref (g.2.2 1 i), .int x, .int y] I P O (dp (some (va_rf ((py I P i x y).map (g.2.2 2)))) (I) (P)) := by
  refine RT.of (own := RX1) rfl (by decide +kernel) (Nat.le_of_ble_eq_true rfl) rfl (fun K C hl hg hR => ?_)
  subst hl
  subst hg
  refine g_iload_n (pc' := 1) C dX1_payer_0 rfl rfl ?_
  refine k_X1_31 (pc' := 4) C (m_X1_placeOf) dX1_payer_1 ⟨⟨Nat.le_of_ble_eq_true rfl, Nat.le_of_ble_eq_true rfl⟩, rfl, rfl⟩ (Nat.le_of_ble_eq_true rfl) ⟨Nat.zero_le _, Nat.zero_le _⟩ rfl ?_
  refine g_istore_n (pc' := 5) C dX1_payer_4 rfl rfl ?_
  refine g_iload_n (pc' := 6) C dX1_payer_5 rfl rfl ?_
  refine g_iload_n (pc' := 7) C dX1_payer_6 rfl rfl ?_
  refine g_icmp_le (tgt := 29) (pc' := 10) C dX1_payer_7 (by decide) rfl (fun c1 => ?_) (fun c1 => ?_)
  ·
    refine g_null (pc' := 30) C dX1_payer_29 rfl ?_
    exact g_aret C hR dX1_payer_30 (Or.inl rfl) ⟨by simp [py, va_rf, c1], rfl, rfl⟩
  ·
    refine g_aload_n (pc' := 11) C dX1_payer_10 rfl rfl ?_
    refine f_X1_18 (pc' := 14) C dX1_payer_11 (by first | assumption | exact rfl | exact al13 rfl | exact Nat.le_of_ble_eq_true rfl) rfl ?_
    refine g_iload_n (pc' := 15) C dX1_payer_14 rfl rfl ?_
    refine g_iald (pc' := 16) C (rg x) (rg_eq x) (rg_lt x) dX1_payer_15 (by first | assumption | exact rfl | exact al13 rfl | exact Nat.le_of_ble_eq_true rfl) rfl rfl rfl ?_
    refine g_iload_n (pc' := 17) C dX1_payer_16 rfl rfl ?_
    refine g_icmp_ne (tgt := 29) (pc' := 20) C dX1_payer_17 (by decide) rfl (fun c2 => ?_) (fun c2 => ?_)
    ·
      refine g_null (pc' := 30) C dX1_payer_29 rfl ?_
      exact g_aret C hR dX1_payer_30 (Or.inl rfl) ⟨by simp [py, va_rf, c1, c2], rfl, rfl⟩
    ·
      refine g_aload_n (pc' := 21) C dX1_payer_20 rfl rfl ?_
      refine f_X1_24 (pc' := 24) C dX1_payer_21 (by first | assumption | exact rfl | exact al13 rfl | exact Nat.le_of_ble_eq_true rfl) rfl ?_
      refine g_iload_n (pc' := 25) C dX1_payer_24 rfl rfl ?_
      refine g_aald (pc' := 26) (t0 := 2) C (rg x) (rg_eq x) (rg_lt x) rfl dX1_payer_25 (by first | assumption | exact rfl | exact al13 rfl | exact Nat.le_of_ble_eq_true rfl) rfl rfl rfl rfl ?_
      refine g_goto (tgt := 30) C dX1_payer_26 (by decide) ?_
      exact g_aret C hR dX1_payer_30 (va_rf_or _) ⟨by simp [py, va_rf, c1, c2], rfl, rfl⟩
set_option maxRecDepth 20000 in
theorem m_X1_keep {l : Launch} {g : wG} {z : wZ} {I : wI} {P : wP} {O : wO} {i m : Nat} {x y : Int32} (hi : wAl z 1 i) (hm2 : wAl z 2 m) : RT l yX1_keep cX1_keep 5 (none) { frames := 1, cells := 0, slots := 0, locals := 20 } g z [.ref (g.2.2 1 i), .int x, .ref (g.2.2 2 m), .int y] I P O (dp (none) (kpI I i x y) (kpP P i m x)) := by
  refine RT.of (own := RX1) rfl (by decide +kernel) (Nat.le_of_ble_eq_true rfl) rfl (fun K C hl hg hR => ?_)
  subst hl
  subst hg
  refine g_iload_n (pc' := 1) C dX1_keep_0 rfl rfl ?_
  refine k_X1_31 (pc' := 4) C (m_X1_placeOf) dX1_keep_1 ⟨⟨Nat.le_of_ble_eq_true rfl, Nat.le_of_ble_eq_true rfl⟩, rfl, rfl⟩ (Nat.le_of_ble_eq_true rfl) ⟨Nat.zero_le _, Nat.zero_le _⟩ rfl ?_
  refine g_istore (pc' := 6) C dX1_keep_4 rfl rfl ?_
  refine g_aload_n (pc' := 7) C dX1_keep_6 rfl rfl ?_
  refine f_X1_18 (pc' := 10) C dX1_keep_7 (by first | assumption | exact rfl | exact al13 rfl | exact Nat.le_of_ble_eq_true rfl) rfl ?_
  refine g_iload (pc' := 12) C dX1_keep_10 rfl rfl ?_
  refine g_iload_n (pc' := 13) C dX1_keep_12 rfl rfl ?_
  refine g_iast (pc' := 14) C (rg x) (rg_eq x) (rg_lt x) dX1_keep_13 (by first | assumption | exact rfl | exact al13 rfl | exact Nat.le_of_ble_eq_true rfl) (fun _ => rfl) rfl rfl ?_
  refine g_aload_n (pc' := 15) C dX1_keep_14 rfl rfl ?_
  refine f_X1_24 (pc' := 18) C dX1_keep_15 (by first | assumption | exact rfl | exact al13 rfl | exact Nat.le_of_ble_eq_true rfl) rfl ?_
  refine g_iload (pc' := 20) C dX1_keep_18 rfl rfl ?_
  refine g_aload_n (pc' := 21) C dX1_keep_20 rfl rfl ?_
  refine g_aast (pc' := 22) (t0 := 2) C (rg x) (rg_eq x) (rg_lt x) dX1_keep_21 (by first | assumption | exact rfl | exact al13 rfl | exact Nat.le_of_ble_eq_true rfl) (by first | assumption | exact rfl | exact al13 rfl | exact Nat.le_of_ble_eq_true rfl) (fun _ => rfl) rfl rfl rfl rfl rfl ?_
  refine g_aload_n (pc' := 23) C dX1_keep_22 rfl rfl ?_
  refine f_X1_28 (pc' := 26) C dX1_keep_23 (by first | assumption | exact rfl | exact al13 rfl | exact Nat.le_of_ble_eq_true rfl) rfl ?_
  refine g_iload (pc' := 28) C dX1_keep_26 rfl rfl ?_
  refine g_iload_n (pc' := 29) C dX1_keep_28 rfl rfl ?_
  refine g_iast (pc' := 30) C (rg x) (rg_eq x) (rg_lt x) dX1_keep_29 (by first | assumption | exact rfl | exact al13 rfl | exact Nat.le_of_ble_eq_true rfl) (fun _ => rfl) rfl rfl ?_
  exact g_vret C hR dX1_keep_30 ⟨rfl, rfl, rfl⟩
set_option maxRecDepth 20000 in
theorem m_X1_take {l : Launch} {g : wG} {z : wZ} {I : wI} {P : wP} {O : wO} {i m : Nat} {x y : Int32} (hi : wAl z 1 i) (hm2 : wAl z 2 m) (hP9 : ∀ q, P 9 i (rg x) = some q → wAl z 2 q) : RT l yX1_take cX1_take 7 ((some .int)) { frames := 2, cells := 0, slots := 0, locals := 43 } g z [.ref (g.2.2 1 i), .int x, .int y, .ref (g.2.2 2 m)] I P O (dp (some (.int (tkR I P i m x y))) (tkI I P i m x y) (tkP I P i x y)) := by
  refine RT.of (own := RX1) rfl (by decide +kernel) (Nat.le_of_ble_eq_true rfl) rfl (fun K C hl hg hR => ?_)
  subst hl
  subst hg
  have hM : RT (Kl K) yX1_payer cX1_payer 4 (some (.object "Hearingpay$Matter")) { frames := 1, cells := 0, slots := 0, locals := 20 } (Kg K) z [.ref ((Kg K).2.2 1 i), .int x, .int y] I P O (dp (some (va_rf ((py I P i x y).map ((Kg K).2.2 2)))) I P) := m_X1_payer hi
  refine g_aload_n (pc' := 1) C dX1_take_0 rfl rfl ?_
  refine g_iload_n (pc' := 2) C dX1_take_1 rfl rfl ?_
  refine g_iload_n (pc' := 3) C dX1_take_2 rfl rfl ?_
  rcases hpy : py I P i x y with _ | q
  · rw [hpy] at hM
    refine k_X1_35 (pc' := 6) C hM dX1_take_3 (by first | assumption | exact rfl | exact al13 rfl | exact Nat.le_of_ble_eq_true rfl) ⟨⟨Nat.le_of_ble_eq_true rfl, Nat.le_of_ble_eq_true rfl⟩, rfl, rfl⟩ (Nat.le_of_ble_eq_true rfl) ⟨Nat.zero_le _, Nat.zero_le _⟩ rfl ?_
    refine g_astoreN (pc' := 8) C dX1_take_6 rfl rfl ?_
    refine g_aloadN (pc' := 10) C dX1_take_8 rfl rfl ?_
    refine g_ifnonnullN (pc' := 13) C dX1_take_10 rfl ?_
    refine g_aload_n (pc' := 14) C dX1_take_13 rfl rfl ?_
    refine f_X1_15 (pc' := 17) C dX1_take_14 (by first | assumption | exact rfl | exact al13 rfl | exact Nat.le_of_ble_eq_true rfl) rfl ?_
    exact g_iret C hR dX1_take_17 ⟨by simp [tkR, hpy], by simp [tkI, hpy], by simp [tkP, hpy]⟩
  · rw [hpy] at hM
    have hq2 : wAl z 2 q := hP9 q (by unfold py at hpy; split at hpy; exact hpy; cases hpy)
    refine k_X1_35 (pc' := 6) C hM dX1_take_3 (by first | assumption | exact rfl | exact al13 rfl | exact Nat.le_of_ble_eq_true rfl) ⟨⟨Nat.le_of_ble_eq_true rfl, Nat.le_of_ble_eq_true rfl⟩, rfl, rfl⟩ (Nat.le_of_ble_eq_true rfl) ⟨Nat.zero_le _, Nat.zero_le _⟩ rfl ?_
    refine g_astore (pc' := 8) C dX1_take_6 rfl rfl ?_
    refine g_aload (pc' := 10) C dX1_take_8 rfl rfl ?_
    refine g_ifnonnull (tgt := 18) C dX1_take_10 (by decide) ?_
    refine g_iload_n (pc' := 19) C dX1_take_18 rfl rfl ?_
    refine k_X1_31 (pc' := 22) C (m_X1_placeOf) dX1_take_19 ⟨⟨Nat.le_of_ble_eq_true rfl, Nat.le_of_ble_eq_true rfl⟩, rfl, rfl⟩ (Nat.le_of_ble_eq_true rfl) ⟨Nat.zero_le _, Nat.zero_le _⟩ rfl ?_
    refine g_istore (pc' := 24) C dX1_take_22 rfl rfl ?_
    refine g_aload_n (pc' := 25) C dX1_take_24 rfl rfl ?_
    refine f_X1_24 (pc' := 28) C dX1_take_25 (by first | assumption | exact rfl | exact al13 rfl | exact Nat.le_of_ble_eq_true rfl) rfl ?_
    refine g_iload (pc' := 30) C dX1_take_28 rfl rfl ?_
    refine g_null (pc' := 31) C dX1_take_30 rfl ?_
    refine g_aastN (pc' := 32) (t0 := 2) C (rg x) (rg_eq x) (rg_lt x) dX1_take_31 (by first | assumption | exact rfl | exact al13 rfl | exact Nat.le_of_ble_eq_true rfl) (fun _ => rfl) rfl rfl rfl ?_
    refine g_aload (pc' := 34) C dX1_take_32 rfl rfl ?_
    refine g_aload_n (pc' := 35) C dX1_take_34 rfl rfl ?_
    refine g_acmp_ne2 (tgt := 40) (pc' := 38) C (by first | assumption | exact rfl | exact al13 rfl | exact Nat.le_of_ble_eq_true rfl) (by first | assumption | exact rfl | exact al13 rfl | exact Nat.le_of_ble_eq_true rfl) dX1_take_35 (by decide) rfl (fun c1 => ?_) (fun c1 => ?_)
    ·
      refine g_aload_n (pc' := 41) C dX1_take_40 rfl rfl ?_
      refine f_X1_28 (pc' := 44) C dX1_take_41 (by first | assumption | exact rfl | exact al13 rfl | exact Nat.le_of_ble_eq_true rfl) rfl ?_
      refine g_iload (pc' := 46) C dX1_take_44 rfl rfl ?_
      refine g_iald (pc' := 47) C (rg x) (rg_eq x) (rg_lt x) dX1_take_46 (by first | assumption | exact rfl | exact al13 rfl | exact Nat.le_of_ble_eq_true rfl) rfl rfl rfl ?_
      refine g_iconst (v := 2) (pc' := 48) C dX1_take_47 (by decide) rfl ?_
      refine g_idiv (pc' := 49) C dX1_take_48 (by decide) rfl ?_
      refine g_istore (pc' := 51) C dX1_take_49 rfl rfl ?_
      refine g_aload (pc' := 53) C dX1_take_51 rfl rfl ?_
      refine g_dup (pc' := 54) C dX1_take_53 rfl rfl ?_
      refine f_X1_39 (pc' := 57) C dX1_take_54 (by first | assumption | exact rfl | exact al13 rfl | exact Nat.le_of_ble_eq_true rfl) rfl ?_
      refine g_iload (pc' := 59) C dX1_take_57 rfl rfl ?_
      refine g_iadd (pc' := 60) C dX1_take_59 rfl ?_
      refine p_X1_39 (pc' := 63) C dX1_take_60 (by first | assumption | exact rfl | exact al13 rfl | exact Nat.le_of_ble_eq_true rfl) rfl ?_
      refine g_iload (pc' := 65) C dX1_take_63 rfl rfl ?_
      exact g_iret C hR dX1_take_65 ⟨by simp [tkR, hpy, c1], by simp [tkI, hpy, c1], by simp [tkP, hpy, c1]⟩
    ·
      refine g_iconst (v := 0) (pc' := 39) C dX1_take_38 (by decide) rfl ?_
      exact g_iret C hR dX1_take_39 ⟨by simp [tkR, hpy, c1], by simp [tkI, hpy, c1], by simp [tkP, hpy, c1]⟩
set_option maxRecDepth 20000 in
theorem l_X1_hoursPaidBy {K : wK} {rm : Room} {z : wZ} {I : wI} {P : wP} {O : wO} {post : Option Value → wI → wP → Prop} {i m : Nat} {y : Int32} (C : Cx K cX1_hoursPaidBy RX1 5 (some .int) rm z) (hR : Rx K z O post) (hi : wAl z 1 i) (hm2 : wAl z 2 m) (hP9 : ∀ k q, k < 16 → P 9 i k = some q → wAl z 2 q) : ∀ (n k : Nat) (x3 x4 : Int32), x4 = nI k → k + n = 16 → post (some (.int (hpL I P i m y n k x3))) I P → G K z I P O 0 0 5 [(0, .ref ((Kg K).2.2 1 i)), (1, .ref ((Kg K).2.2 2 m)), (2, .int y), (3, .int x3), (4, .int x4)] [] := by
  intro n
  induction n with
  | zero =>
    intro k x3 x4 ex4 hk hpost
    refine g_iload (pc' := 7) C dX1_hoursPaidBy_5 rfl rfl ?_
    refine g_bipush (v := 16) (pc' := 9) C dX1_hoursPaidBy_7 (by decide) rfl ?_
    refine g_icmp_ge (tgt := 43) (pc' := 12) C dX1_hoursPaidBy_9 (by decide) rfl (fun _ => ?_) (fun h => absurd (by rw [ex4, show k = 16 by omega]; decide) h)
    refine g_iload_n (pc' := 44) C dX1_hoursPaidBy_43 rfl rfl ?_
    exact g_iret C hR dX1_hoursPaidBy_44 hpost
  | succ n ih =>
    intro k x3 x4 ex4 hk hpost
    refine g_iload (pc' := 7) C dX1_hoursPaidBy_5 rfl rfl ?_
    refine g_bipush (v := 16) (pc' := 9) C dX1_hoursPaidBy_7 (by decide) rfl ?_
    refine g_icmp_ge (tgt := 43) (pc' := 12) C dX1_hoursPaidBy_9 (by decide) rfl (fun c1 => absurd c1 (by rw [ex4]; exact nI_ge (a := k) (b := 16) (by omega) (by decide))) (fun c1 => ?_)
    refine g_aload_n (pc' := 13) C dX1_hoursPaidBy_12 rfl rfl ?_
    refine f_X1_24 (pc' := 16) C dX1_hoursPaidBy_13 (by first | assumption | exact rfl | exact al13 rfl | exact Nat.le_of_ble_eq_true rfl) rfl ?_
    refine g_iload (pc' := 18) C dX1_hoursPaidBy_16 rfl rfl ?_
    rcases hq : P 9 i k with _ | q
    · refine g_aald (pc' := 19) (t0 := 2) C k ex4 (by omega) hq dX1_hoursPaidBy_18 (by first | assumption | exact rfl | exact al13 rfl | exact Nat.le_of_ble_eq_true rfl) rfl rfl rfl rfl ?_
      refine g_aload_n (pc' := 20) C dX1_hoursPaidBy_19 rfl rfl ?_
      refine g_acmp_ne (x := none) (y := some _) (tgt := 37) (pc' := 23) C dX1_hoursPaidBy_20 (by decide) rfl (fun _ => ?_) (fun h => by cases h)
      refine g_iinc (pc' := 40) C dX1_hoursPaidBy_37 rfl (ii1 _) rfl rfl ?_
      refine g_goto (tgt := 5) C dX1_hoursPaidBy_40 (by decide) ?_
      refine (ih (k + 1) _ _ (by rw [ex4]; exact (nI_1 k)) (by omega) ?_)
      simpa [hpL, c1, hq] using hpost
    · have hq2 : wAl z 2 q := hP9 k q (by omega) hq
      refine g_aald (pc' := 19) (t0 := 2) C k ex4 (by omega) hq dX1_hoursPaidBy_18 (by first | assumption | exact rfl | exact al13 rfl | exact Nat.le_of_ble_eq_true rfl) rfl rfl rfl rfl ?_
      refine g_aload_n (pc' := 20) C dX1_hoursPaidBy_19 rfl rfl ?_
      refine g_acmp_ne2 (tgt := 37) (pc' := 23) C (by first | assumption | exact rfl | exact al13 rfl | exact Nat.le_of_ble_eq_true rfl) (by first | assumption | exact rfl | exact al13 rfl | exact Nat.le_of_ble_eq_true rfl) dX1_hoursPaidBy_20 (by decide) rfl (fun c2 => ?_) (fun c2 => ?_)
      ·
        refine g_iinc (pc' := 40) C dX1_hoursPaidBy_37 rfl (ii1 _) rfl rfl ?_
        refine g_goto (tgt := 5) C dX1_hoursPaidBy_40 (by decide) ?_
        refine (ih (k + 1) _ _ (by rw [ex4]; exact (nI_1 k)) (by omega) ?_)
        simpa [hpL, c1, hq, c2] using hpost
      ·
        refine g_aload_n (pc' := 24) C dX1_hoursPaidBy_23 rfl rfl ?_
        refine f_X1_18 (pc' := 27) C dX1_hoursPaidBy_24 (by first | assumption | exact rfl | exact al13 rfl | exact Nat.le_of_ble_eq_true rfl) rfl ?_
        refine g_iload (pc' := 29) C dX1_hoursPaidBy_27 rfl rfl ?_
        refine g_iald (pc' := 30) C (k) ex4 (by omega) dX1_hoursPaidBy_29 (by first | assumption | exact rfl | exact al13 rfl | exact Nat.le_of_ble_eq_true rfl) rfl rfl rfl ?_
        refine g_iload_n (pc' := 31) C dX1_hoursPaidBy_30 rfl rfl ?_
        refine g_icmp_le (tgt := 37) (pc' := 34) C dX1_hoursPaidBy_31 (by decide) rfl (fun c3 => ?_) (fun c3 => ?_)
        ·
          refine g_iinc (pc' := 40) C dX1_hoursPaidBy_37 rfl (ii1 _) rfl rfl ?_
          refine g_goto (tgt := 5) C dX1_hoursPaidBy_40 (by decide) ?_
          refine (ih (k + 1) _ _ (by rw [ex4]; exact (nI_1 k)) (by omega) ?_)
          simpa [hpL, c1, hq, c2, c3] using hpost
        ·
          refine g_iinc (pc' := 37) C dX1_hoursPaidBy_34 rfl (ii1 _) rfl rfl ?_
          refine g_iinc (pc' := 40) C dX1_hoursPaidBy_37 rfl (ii1 _) rfl rfl ?_
          refine g_goto (tgt := 5) C dX1_hoursPaidBy_40 (by decide) ?_
          refine (ih (k + 1) _ _ (by rw [ex4]; exact (nI_1 k)) (by omega) ?_)
          simpa [hpL, c1, hq, c2, c3] using hpost
set_option maxRecDepth 20000 in
theorem m_X1_hoursPaidBy {l : Launch} {g : wG} {z : wZ} {I : wI} {P : wP} {O : wO} {i m : Nat} {y : Int32} (hi : wAl z 1 i) (hm2 : wAl z 2 m) (hP9 : ∀ k q, k < 16 → P 9 i k = some q → wAl z 2 q) : RT l yX1_hoursPaidBy cX1_hoursPaidBy 5 ((some .int)) { frames := 0, cells := 0, slots := 0, locals := 0 } g z [.ref (g.2.2 1 i), .ref (g.2.2 2 m), .int y] I P O (dp (some (.int (hpL I P i m y 16 0 0))) (I) (P)) := by
  refine RT.of (own := RX1) rfl (by decide +kernel) (Nat.le_of_ble_eq_true rfl) rfl (fun K C hl hg hR => ?_)
  subst hl
  subst hg
  refine g_iconst (v := 0) (pc' := 1) C dX1_hoursPaidBy_0 (by decide) rfl ?_
  refine g_istore_n (pc' := 2) C dX1_hoursPaidBy_1 rfl rfl ?_
  refine g_iconst (v := 0) (pc' := 3) C dX1_hoursPaidBy_2 (by decide) rfl ?_
  refine g_istore (pc' := 5) C dX1_hoursPaidBy_3 rfl rfl ?_
  exact l_X1_hoursPaidBy C hR hi hm2 hP9 16 0 0 0 nI_0.symm rfl ⟨rfl, rfl, rfl⟩
end WLeaf
end
section
section WHelp
theorem G_pick {K : wK} {z : wZ} {I : wI} {P : wP} {O : wO} {c n pc : Nat} {L L' : List (Nat × Value)} {S : List Value} (ks : List Nat) (h : lv_pick L ks = L') (kk : G K z I P O c n pc L' S) : G K z I P O c n pc L S := by
  obtain ⟨p, l, e, R, s, m, args, below, meth, cd, Q, g, A⟩ := K
  intro H locs ls hH hS hl hc
  refine kk H locs ls hH hS (lv_sub hl ks h) (fun q hq => ?_)
  rw [← h] at hq
  obtain ⟨k, -, hk⟩ := List.mem_filterMap.mp hq
  exact hc q (List.mem_of_getElem? hk)
def inn (x c : Int32) : Bool := !decide (x < 0) && !decide (c ≤ x)
def mx (P : wP) (h : Nat) : Nat := (P 3 h 1).getD 0
def hrN (I : wI) (h : Nat) : Nat := (I 3 h 2).toNatClampNeg
def fsN (I : wI) (m : Nat) : Nat := (I 2 m 2).toNatClampNeg
def XI (z : wZ) (I : wI) (P : wP) : Prop := z.1 ≤ 12 ∧ z.2 ≤ 24 ∧ I 0 0 4 = nI z.1 ∧ I 0 0 5 = nI z.2 ∧ (∀ j, j < z.1 → P 6 0 j = some j) ∧ (∀ j, j < z.2 → P 7 0 j = some j) ∧ (∀ j, j < 4 → P 4 0 j = some j) ∧ (∀ h, h < z.2 → P 3 h 1 = some (mx P h) ∧ mx P h < z.1) ∧ (∀ i p q, i < 4 → p < 16 → P 9 i p = some q → q < z.1) ∧ (∀ h, h < z.2 → I 3 h 2 = nI (hrN I h) ∧ hrN I h ≤ 4) ∧ (∀ m, m < z.1 → I 2 m 2 = nI (fsN I m) ∧ fsN I m < 6)
theorem XI.hm {z : wZ} {I : wI} {P : wP} {h : Nat} (X : XI z I P) (hh : wAl z 3 h) : P 3 h 1 = some (mx P h) := (X.2.2.2.2.2.2.2.1 h hh).1
theorem XI.hm2 {z : wZ} {I : wI} {P : wP} {h : Nat} (X : XI z I P) (hh : wAl z 3 h) : wAl z 2 (mx P h) := (X.2.2.2.2.2.2.2.1 h hh).2
theorem XI.h9 {z : wZ} {I : wI} {P : wP} {i p q : Nat} (X : XI z I P) (hi : wAl z 1 i) (hp : p < 16) (h : P 9 i p = some q) : wAl z 2 q := X.2.2.2.2.2.2.2.2.1 i p q hi hp h
theorem XI.hr {z : wZ} {I : wI} {P : wP} {h : Nat} (X : XI z I P) (hh : wAl z 3 h) : I 3 h 2 = nI (hrN I h) := (X.2.2.2.2.2.2.2.2.2.1 h hh).1
theorem XI.hr4 {z : wZ} {I : wI} {P : wP} {h : Nat} (X : XI z I P) (hh : wAl z 3 h) : hrN I h ≤ 4 := (X.2.2.2.2.2.2.2.2.2.1 h hh).2
theorem XI.fs {z : wZ} {I : wI} {P : wP} {m : Nat} (X : XI z I P) (hm : wAl z 2 m) : I 2 m 2 = nI (fsN I m) := (X.2.2.2.2.2.2.2.2.2.2 m hm).1
theorem XI.fs6 {z : wZ} {I : wI} {P : wP} {m : Nat} (X : XI z I P) (hm : wAl z 2 m) : fsN I m < 6 := (X.2.2.2.2.2.2.2.2.2.2 m hm).2
theorem XI.of {z : wZ} {I I' : wI} {P P' : wP} (X : XI z I P) (h4 : I' 0 0 4 = I 0 0 4) (h5 : I' 0 0 5 = I 0 0 5) (h2 : ∀ h, I' 3 h 2 = I 3 h 2) (hf : ∀ m, I' 2 m 2 = I 2 m 2) (hP : ∀ k i, k ≠ 9 → P' k i = P k i) (hP9 : ∀ i p q, i < 4 → p < 16 → P' 9 i p = some q → q < z.1) : XI z I' P' := by
  obtain ⟨a, b, c, d, e, f, g, h, i, j, k⟩ := X
  refine ⟨a, b, h4.trans c, h5.trans d, fun q hq => ?_, fun q hq => ?_, fun q hq => ?_, fun q hq => ?_, hP9, fun q hq => ?_, fun q hq => ?_⟩
  · rw [hP 6 0 (by decide)]; exact e q hq
  · rw [hP 7 0 (by decide)]; exact f q hq
  · rw [hP 4 0 (by decide)]; exact g q hq
  · unfold mx; rw [hP 3 q (by decide)]; exact h q hq
  · unfold hrN; rw [h2 q]; exact j q hq
  · unfold fsN; rw [hf q]; exact k q hq
theorem in_of (x : Int32) (n : Nat) (hn : n < 2 ^ 31) : (∃ j : Nat, j < n ∧ x = nI j) ∨ (x < 0 ∨ nI n ≤ x) := by
  rcases pk_ix x hn with h | h | ⟨j, h1, h2⟩
  · exact Or.inr (Or.inl h)
  · exact Or.inr (Or.inr h)
  · exact Or.inl ⟨j, h1, h2⟩
def asN (I : wI) (m : Nat) (x : Int32) : Bool := if I 2 m 4 = -1 then decide (x < 0 ∨ 4 ≤ x) else (!decide (x < 0 ∨ 4 ≤ x)) && kn I x.toNatClampNeg (I 2 m 4)
def crS (I : wI) (P : wP) (it : Option Nat) (m : Nat) (r itp fr oh : Int32) (h : Nat) (x : Int32) : Int32 := if it = some h ∨ ¬ tp I h fr oh = true then x else if ¬ ra I (mx P h) h m r itp = 0 ∧ (x = 0 ∨ ¬ x ≤ ra I (mx P h) h m r itp) then ra I (mx P h) h m r itp else x
def crL (I : wI) (P : wP) (it : Option Nat) (m : Nat) (r itp fr oh : Int32) : Nat → Nat → Int32 → Int32
  | 0, _, x => x
  | n + 1, h, x => crL I P it m r itp fr oh n (h + 1) (crS I P it m r itp fr oh h x)
def ff (I : wI) (m : Nat) (fee : Int32) : Int32 := if I 5 0 (fsN I m) = 0 then fee else 0
def ptS (i m h : Nat) (fr now : Int32) (k : Nat) (s : wI × wP) : wI × wP := (upI (tkI s.1 s.2 i m (fr + nI k) now) 11 h k (tkR s.1 s.2 i m (fr + nI k) now), tkP s.1 s.2 i (fr + nI k) now)
def ptL (i m h : Nat) (fr now : Int32) : Nat → Nat → wI × wP → wI × wP
  | 0, _, s => s
  | n + 1, k, s => ptL i m h fr now n (k + 1) (ptS i m h fr now k s)
def p0L (h : Nat) : Nat → Nat → wI → wI
  | 0, _, I => I
  | n + 1, k, I => p0L h n (k + 1) (upI I 11 h k 0)
def putB (I : wI) (m h : Nat) : wI := upI I 2 m 6 (I 2 m 6 - chg I h)
def lvS (i m h : Nat) (k : Nat) (s : wI × wP) : wI × wP := (kpI s.1 i (s.1 3 h 7 + nI k) (s.1 11 h k), kpP s.2 i m (s.1 3 h 7 + nI k))
def lvL (i m h : Nat) : Nat → Nat → wI × wP → wI × wP
  | 0, _, s => s
  | n + 1, k, s => lvL i m h n (k + 1) (lvS i m h k s)
def blL (I : wI) : Nat → Nat → Int32 → Int32
  | 0, _, x => x
  | n + 1, m, x => blL I n (m + 1) (x + I 2 m 6)
set_option maxRecDepth 20000 in
theorem m_X3_isIn {l : Launch} {g : wG} {z : wZ} {I : wI} {P : wP} {O : wO} {x y : Int32} : RT l yX3_isIn cX3_isIn 2 ((some .boolean)) { frames := 0, cells := 0, slots := 0, locals := 0 } g z [.int x, .int y] I P O (dp (some (.int (b2 (inn x y)))) (I) (P)) := by
  refine RT.of (own := RX3) rfl (by decide +kernel) (Nat.le_of_ble_eq_true rfl) rfl (fun K C hl hg hR => ?_)
  subst hl
  subst hg
  refine g_iload_n (pc' := 1) C dX3_isIn_0 rfl rfl ?_
  refine g_if_lt (tgt := 13) (pc' := 4) C dX3_isIn_1 (by decide) rfl (fun c1 => ?_) (fun c1 => ?_)
  ·
    refine g_iconst (v := 0) (pc' := 14) C dX3_isIn_13 (by decide) rfl ?_
    exact g_zret C hR dX3_isIn_14 rfl ⟨by simp [b2, inn, c1], rfl, rfl⟩
  ·
    refine g_iload_n (pc' := 5) C dX3_isIn_4 rfl rfl ?_
    refine g_iload_n (pc' := 6) C dX3_isIn_5 rfl rfl ?_
    refine g_icmp_ge (tgt := 13) (pc' := 9) C dX3_isIn_6 (by decide) rfl (fun c2 => ?_) (fun c2 => ?_)
    ·
      refine g_iconst (v := 0) (pc' := 14) C dX3_isIn_13 (by decide) rfl ?_
      exact g_zret C hR dX3_isIn_14 rfl ⟨by simp [b2, inn, c1, c2], rfl, rfl⟩
    ·
      refine g_iconst (v := 1) (pc' := 10) C dX3_isIn_9 (by decide) rfl ?_
      refine g_goto (tgt := 14) C dX3_isIn_10 (by decide) ?_
      exact g_zret C hR dX3_isIn_14 rfl ⟨by simp [b2, inn, c1, c2], rfl, rfl⟩
set_option maxRecDepth 20000 in
theorem m_X3_isInOrNone {l : Launch} {g : wG} {z : wZ} {I : wI} {P : wP} {O : wO} {x y : Int32} : RT l yX3_isInOrNone cX3_isInOrNone 2 ((some .boolean)) { frames := 1, cells := 0, slots := 0, locals := 21 } g z [.int x, .int y] I P O (dp (some (.int (b2 (decide (x = -1) || inn x y)))) (I) (P)) := by
  refine RT.of (own := RX3) rfl (by decide +kernel) (Nat.le_of_ble_eq_true rfl) rfl (fun K C hl hg hR => ?_)
  subst hl
  subst hg
  refine g_iload_n (pc' := 1) C dX3_isInOrNone_0 rfl rfl ?_
  refine g_iconst (v := (-1)) (pc' := 2) C dX3_isInOrNone_1 (by decide) rfl ?_
  refine g_icmp_eq (tgt := 13) (pc' := 5) C dX3_isInOrNone_2 (by decide) rfl (fun c1 => ?_) (fun c1 => ?_)
  ·
    refine g_iconst (v := 1) (pc' := 14) C dX3_isInOrNone_13 (by decide) rfl ?_
    refine g_goto (tgt := 18) C dX3_isInOrNone_14 (by decide) ?_
    exact g_zret C hR dX3_isInOrNone_18 rfl ⟨by simp [b2, c1], rfl, rfl⟩
  ·
    refine g_iload_n (pc' := 6) C dX3_isInOrNone_5 rfl rfl ?_
    refine g_iload_n (pc' := 7) C dX3_isInOrNone_6 rfl rfl ?_
    refine k_X3_66 (pc' := 10) C (m_X3_isIn) dX3_isInOrNone_7 ⟨⟨Nat.le_of_ble_eq_true rfl, Nat.le_of_ble_eq_true rfl⟩, rfl, rfl⟩ (Nat.le_of_ble_eq_true rfl) ⟨Nat.zero_le _, Nat.zero_le _⟩ rfl ?_
    refine g_if_eq (tgt := 17) (pc' := 13) C dX3_isInOrNone_10 (by decide) rfl (fun c2 => ?_) (fun c2 => ?_)
    ·
      have c2 := b2_0.mp c2
      refine g_iconst (v := 0) (pc' := 18) C dX3_isInOrNone_17 (by decide) rfl ?_
      exact g_zret C hR dX3_isInOrNone_18 rfl ⟨by simp [b2, c1, c2], rfl, rfl⟩
    ·
      have c2 := b2_1.mp c2
      refine g_iconst (v := 1) (pc' := 14) C dX3_isInOrNone_13 (by decide) rfl ?_
      refine g_goto (tgt := 18) C dX3_isInOrNone_14 (by decide) ?_
      exact g_zret C hR dX3_isInOrNone_18 rfl ⟨by simp [b2, c1, c2], rfl, rfl⟩
set_option maxRecDepth 20000 in
theorem m_X3_isCalendarHour {l : Launch} {g : wG} {z : wZ} {I : wI} {P : wP} {O : wO} {x : Int32} : RT l yX3_isCalendarHour cX3_isCalendarHour 1 ((some .boolean)) { frames := 0, cells := 0, slots := 0, locals := 0 } g z [.int x] I P O (dp (some (.int (b2 (!decide (x < 0) && !decide (1003 < x))))) (I) (P)) := by
  refine RT.of (own := RX3) rfl (by decide +kernel) (Nat.le_of_ble_eq_true rfl) rfl (fun K C hl hg hR => ?_)
  subst hl
  subst hg
  refine g_iload_n (pc' := 1) C dX3_isCalendarHour_0 rfl rfl ?_
  refine g_if_lt (tgt := 15) (pc' := 4) C dX3_isCalendarHour_1 (by decide) rfl (fun c1 => ?_) (fun c1 => ?_)
  ·
    refine g_iconst (v := 0) (pc' := 16) C dX3_isCalendarHour_15 (by decide) rfl ?_
    exact g_zret C hR dX3_isCalendarHour_16 rfl ⟨by simp [b2, inn, c1], rfl, rfl⟩
  ·
    refine g_iload_n (pc' := 5) C dX3_isCalendarHour_4 rfl rfl ?_
    refine g_sipush (v := 1003) (pc' := 8) C dX3_isCalendarHour_5 (by decide) rfl ?_
    refine g_icmp_gt (tgt := 15) (pc' := 11) C dX3_isCalendarHour_8 (by decide) rfl (fun c2 => ?_) (fun c2 => ?_)
    ·
      refine g_iconst (v := 0) (pc' := 16) C dX3_isCalendarHour_15 (by decide) rfl ?_
      exact g_zret C hR dX3_isCalendarHour_16 rfl ⟨by simp [b2, inn, c1, c2], rfl, rfl⟩
    ·
      refine g_iconst (v := 1) (pc' := 12) C dX3_isCalendarHour_11 (by decide) rfl ?_
      refine g_goto (tgt := 16) C dX3_isCalendarHour_12 (by decide) ?_
      exact g_zret C hR dX3_isCalendarHour_16 rfl ⟨by simp [b2, inn, c1, c2], rfl, rfl⟩
set_option maxRecDepth 20000 in
theorem m_X3_howMany {l : Launch} {g : wG} {z : wZ} {I : wI} {P : wP} {O : wO} {x : Int32} : RT l yX3_howMany cX3_howMany 1 ((some .int)) { frames := 0, cells := 0, slots := 0, locals := 0 } g z [.int x] I P O (dp (some (.int (if x = 0 then 4 else if x = 1 then 4 else if x = 2 then 6 else 4))) (I) (P)) := by
  refine RT.of (own := RX3) rfl (by decide +kernel) (Nat.le_of_ble_eq_true rfl) rfl (fun K C hl hg hR => ?_)
  subst hl
  subst hg
  refine g_iload_n (pc' := 1) C dX3_howMany_0 rfl rfl ?_
  rcases tsw2 x with hw | hw | hw | hw
  · refine g_tabIn (tgt := 28) C 0 (by rw [hw]; rfl) dX3_howMany_1 (by decide) (by decide) rfl (by decide) ?_
    refine g_iconst (v := 4) (pc' := 29) C dX3_howMany_28 (by decide) rfl ?_
    exact g_iret C hR dX3_howMany_29 ⟨by simp [hw], rfl, rfl⟩
  · refine g_tabIn (tgt := 30) C 1 (by rw [hw]; rfl) dX3_howMany_1 (by decide) (by decide) rfl (by decide) ?_
    refine g_iconst (v := 4) (pc' := 31) C dX3_howMany_30 (by decide) rfl ?_
    exact g_iret C hR dX3_howMany_31 ⟨by simp [hw], rfl, rfl⟩
  · refine g_tabIn (tgt := 32) C 2 (by rw [hw]; rfl) dX3_howMany_1 (by decide) (by decide) rfl (by decide) ?_
    refine g_bipush (v := 6) (pc' := 34) C dX3_howMany_32 (by decide) rfl ?_
    exact g_iret C hR dX3_howMany_34 ⟨by simp [hw], rfl, rfl⟩
  · have h0 : ¬ x = 0 := fun e => by rw [e] at hw; exact absurd hw (by decide)
    have h1 : ¬ x = 1 := fun e => by rw [e] at hw; exact absurd hw (by decide)
    have h2 : ¬ x = 2 := fun e => by rw [e] at hw; exact absurd hw (by decide)
    refine g_tabOut (tgt := 35) C dX3_howMany_1 hw (by decide) ?_
    refine g_iconst (v := 4) (pc' := 36) C dX3_howMany_35 (by decide) rfl ?_
    exact g_iret C hR dX3_howMany_36 ⟨by simp [h0, h1, h2], rfl, rfl⟩
set_option maxRecDepth 20000 in
theorem m_X3_interpreterAtS {l : Launch} {g : wG} {z : wZ} {I : wI} {P : wP} {O : wO} {x : Int32} {j : Nat} (hj : x = nI j) (hj4 : j < 4) (hq : P 4 0 j = some j) : RT l yX3_interpreterAt cX3_interpreterAt 2 ((some (.object "Hearingpay$Interpreter"))) { frames := 0, cells := 0, slots := 0, locals := 0 } g z [.ref (g.2.2 0 0), .int x] I P O (dp (some (.ref (g.2.2 1 j))) (I) (P)) := by
  refine RT.of (own := RX3) rfl (by decide +kernel) (Nat.le_of_ble_eq_true rfl) rfl (fun K C hl hg hR => ?_)
  subst hl
  subst hg
  refine g_iload_n (pc' := 1) C dX3_interpreterAt_0 rfl rfl ?_
  refine g_if_lt (tgt := 22) (pc' := 4) C dX3_interpreterAt_1 (by decide) rfl (fun c1 => absurd c1 (by rw [hj]; exact nI_pos (by omega))) (fun c1 => ?_)
  refine g_iload_n (pc' := 5) C dX3_interpreterAt_4 rfl rfl ?_
  refine g_aload_n (pc' := 6) C dX3_interpreterAt_5 rfl rfl ?_
  refine f_X3_11 (pc' := 9) C dX3_interpreterAt_6 (by first | assumption | exact rfl | exact al13 rfl | exact Nat.le_of_ble_eq_true rfl) rfl ?_
  refine g_alen (pc' := 10) (v := 4) (t0 := 4) C dX3_interpreterAt_9 (by first | assumption | exact rfl | exact al13 rfl | exact Nat.le_of_ble_eq_true rfl) rfl rfl rfl rfl ?_
  refine g_icmp_ge (tgt := 22) (pc' := 13) C dX3_interpreterAt_10 (by decide) rfl (fun c2 => absurd c2 (by rw [hj]; exact nI_ge (a := j) (b := 4) (by omega) (by omega))) (fun c2 => ?_)
  refine g_aload_n (pc' := 14) C dX3_interpreterAt_13 rfl rfl ?_
  refine f_X3_11 (pc' := 17) C dX3_interpreterAt_14 (by first | assumption | exact rfl | exact al13 rfl | exact Nat.le_of_ble_eq_true rfl) rfl ?_
  refine g_iload_n (pc' := 18) C dX3_interpreterAt_17 rfl rfl ?_
  refine g_aald (pc' := 19) (t0 := 4) C (j) hj hj4 hq dX3_interpreterAt_18 (by first | assumption | exact rfl | exact al13 rfl | exact Nat.le_of_ble_eq_true rfl) rfl rfl rfl rfl ?_
  refine g_goto (tgt := 23) C dX3_interpreterAt_19 (by decide) ?_
  exact g_aret C hR dX3_interpreterAt_23 (Or.inr ⟨_, rfl⟩) ⟨rfl, rfl, rfl⟩
set_option maxRecDepth 20000 in
theorem m_X3_interpreterAtN {l : Launch} {g : wG} {z : wZ} {I : wI} {P : wP} {O : wO} {x : Int32} (h : x < 0 ∨ 4 ≤ x) : RT l yX3_interpreterAt cX3_interpreterAt 2 ((some (.object "Hearingpay$Interpreter"))) { frames := 0, cells := 0, slots := 0, locals := 0 } g z [.ref (g.2.2 0 0), .int x] I P O (dp (some (.null)) (I) (P)) := by
  refine RT.of (own := RX3) rfl (by decide +kernel) (Nat.le_of_ble_eq_true rfl) rfl (fun K C hl hg hR => ?_)
  subst hl
  subst hg
  refine g_iload_n (pc' := 1) C dX3_interpreterAt_0 rfl rfl ?_
  refine g_if_lt (tgt := 22) (pc' := 4) C dX3_interpreterAt_1 (by decide) rfl (fun c1 => ?_) (fun c1 => ?_)
  ·
    refine g_null (pc' := 23) C dX3_interpreterAt_22 rfl ?_
    exact g_aret C hR dX3_interpreterAt_23 (Or.inl rfl) ⟨rfl, rfl, rfl⟩
  ·
    refine g_iload_n (pc' := 5) C dX3_interpreterAt_4 rfl rfl ?_
    refine g_aload_n (pc' := 6) C dX3_interpreterAt_5 rfl rfl ?_
    refine f_X3_11 (pc' := 9) C dX3_interpreterAt_6 (by first | assumption | exact rfl | exact al13 rfl | exact Nat.le_of_ble_eq_true rfl) rfl ?_
    refine g_alen (pc' := 10) (v := 4) (t0 := 4) C dX3_interpreterAt_9 (by first | assumption | exact rfl | exact al13 rfl | exact Nat.le_of_ble_eq_true rfl) rfl rfl rfl rfl ?_
    refine g_icmp_ge (tgt := 22) (pc' := 13) C dX3_interpreterAt_10 (by decide) rfl (fun c2 => ?_) (fun c2 => absurd (h.resolve_left c1) c2)
    refine g_null (pc' := 23) C dX3_interpreterAt_22 rfl ?_
    exact g_aret C hR dX3_interpreterAt_23 (Or.inl rfl) ⟨rfl, rfl, rfl⟩
set_option maxRecDepth 20000 in
theorem m_X3_matterAtS {l : Launch} {g : wG} {z : wZ} {I : wI} {P : wP} {O : wO} {x : Int32} {j : Nat} (X : XI z I P) (hj : x = nI j) (hj4 : j < z.1) : RT l yX3_matterAt cX3_matterAt 2 ((some (.object "Hearingpay$Matter"))) { frames := 0, cells := 0, slots := 0, locals := 0 } g z [.ref (g.2.2 0 0), .int x] I P O (dp (some (.ref (g.2.2 2 j))) (I) (P)) := by
  refine RT.of (own := RX3) rfl (by decide +kernel) (Nat.le_of_ble_eq_true rfl) rfl (fun K C hl hg hR => ?_)
  subst hl
  subst hg
  have hc := X.2.2.1
  have hcap := X.1
  refine g_iload_n (pc' := 1) C dX3_matterAt_0 rfl rfl ?_
  refine g_if_lt (tgt := 30) (pc' := 4) C dX3_matterAt_1 (by decide) rfl (fun c1 => absurd c1 (by rw [hj]; exact nI_pos (by omega))) (fun c1 => ?_)
  refine g_iload_n (pc' := 5) C dX3_matterAt_4 rfl rfl ?_
  refine g_aload_n (pc' := 6) C dX3_matterAt_5 rfl rfl ?_
  refine f_X3_31 (pc' := 9) C dX3_matterAt_6 (by first | assumption | exact rfl | exact al13 rfl | exact Nat.le_of_ble_eq_true rfl) rfl ?_
  refine g_icmp_ge (tgt := 30) (pc' := 12) C dX3_matterAt_9 (by decide) rfl (fun c2 => absurd c2 (by rw [hj, hc]; exact nI_ge (by omega) (by omega))) (fun c2 => ?_)
  refine g_iload_n (pc' := 13) C dX3_matterAt_12 rfl rfl ?_
  refine g_aload_n (pc' := 14) C dX3_matterAt_13 rfl rfl ?_
  refine f_X3_21 (pc' := 17) C dX3_matterAt_14 (by first | assumption | exact rfl | exact al13 rfl | exact Nat.le_of_ble_eq_true rfl) rfl ?_
  refine g_alen (pc' := 18) (v := 12) (t0 := 2) C dX3_matterAt_17 (by first | assumption | exact rfl | exact al13 rfl | exact Nat.le_of_ble_eq_true rfl) rfl rfl rfl rfl ?_
  refine g_icmp_ge (tgt := 30) (pc' := 21) C dX3_matterAt_18 (by decide) rfl (fun c3 => absurd c3 (by rw [hj]; exact nI_ge (a := j) (b := 12) (by omega) (by omega))) (fun c3 => ?_)
  refine g_aload_n (pc' := 22) C dX3_matterAt_21 rfl rfl ?_
  refine f_X3_21 (pc' := 25) C dX3_matterAt_22 (by first | assumption | exact rfl | exact al13 rfl | exact Nat.le_of_ble_eq_true rfl) rfl ?_
  refine g_iload_n (pc' := 26) C dX3_matterAt_25 rfl rfl ?_
  refine g_aald (pc' := 27) (t0 := 2) C (j) hj (by omega) (X.2.2.2.2.1 j hj4) dX3_matterAt_26 (by first | assumption | exact rfl | exact al13 rfl | exact Nat.le_of_ble_eq_true rfl) rfl rfl rfl rfl ?_
  refine g_goto (tgt := 31) C dX3_matterAt_27 (by decide) ?_
  exact g_aret C hR dX3_matterAt_31 (Or.inr ⟨_, rfl⟩) ⟨rfl, rfl, rfl⟩
set_option maxRecDepth 20000 in
theorem m_X3_matterAtN {l : Launch} {g : wG} {z : wZ} {I : wI} {P : wP} {O : wO} {x : Int32} (X : XI z I P) (h : x < 0 ∨ nI z.1 ≤ x) : RT l yX3_matterAt cX3_matterAt 2 ((some (.object "Hearingpay$Matter"))) { frames := 0, cells := 0, slots := 0, locals := 0 } g z [.ref (g.2.2 0 0), .int x] I P O (dp (some (.null)) (I) (P)) := by
  refine RT.of (own := RX3) rfl (by decide +kernel) (Nat.le_of_ble_eq_true rfl) rfl (fun K C hl hg hR => ?_)
  subst hl
  subst hg
  refine g_iload_n (pc' := 1) C dX3_matterAt_0 rfl rfl ?_
  refine g_if_lt (tgt := 30) (pc' := 4) C dX3_matterAt_1 (by decide) rfl (fun c1 => ?_) (fun c1 => ?_)
  ·
    refine g_null (pc' := 31) C dX3_matterAt_30 rfl ?_
    exact g_aret C hR dX3_matterAt_31 (Or.inl rfl) ⟨rfl, rfl, rfl⟩
  ·
    refine g_iload_n (pc' := 5) C dX3_matterAt_4 rfl rfl ?_
    refine g_aload_n (pc' := 6) C dX3_matterAt_5 rfl rfl ?_
    refine f_X3_31 (pc' := 9) C dX3_matterAt_6 (by first | assumption | exact rfl | exact al13 rfl | exact Nat.le_of_ble_eq_true rfl) rfl ?_
    refine g_icmp_ge (tgt := 30) (pc' := 12) C dX3_matterAt_9 (by decide) rfl (fun c2 => ?_) (fun c2 => absurd (by rw [X.2.2.1]; exact h.resolve_left c1) c2)
    refine g_null (pc' := 31) C dX3_matterAt_30 rfl ?_
    exact g_aret C hR dX3_matterAt_31 (Or.inl rfl) ⟨rfl, rfl, rfl⟩
set_option maxRecDepth 20000 in
theorem m_X3_hearingAtS {l : Launch} {g : wG} {z : wZ} {I : wI} {P : wP} {O : wO} {x : Int32} {j : Nat} (X : XI z I P) (hj : x = nI j) (hj4 : j < z.2) : RT l yX3_hearingAt cX3_hearingAt 2 ((some (.object "Hearingpay$Hearing"))) { frames := 0, cells := 0, slots := 0, locals := 0 } g z [.ref (g.2.2 0 0), .int x] I P O (dp (some (.ref (g.2.2 3 j))) (I) (P)) := by
  refine RT.of (own := RX3) rfl (by decide +kernel) (Nat.le_of_ble_eq_true rfl) rfl (fun K C hl hg hR => ?_)
  subst hl
  subst hg
  have hc := X.2.2.2.1
  have hcap := X.2.1
  refine g_iload_n (pc' := 1) C dX3_hearingAt_0 rfl rfl ?_
  refine g_if_lt (tgt := 30) (pc' := 4) C dX3_hearingAt_1 (by decide) rfl (fun c1 => absurd c1 (by rw [hj]; exact nI_pos (by omega))) (fun c1 => ?_)
  refine g_iload_n (pc' := 5) C dX3_hearingAt_4 rfl rfl ?_
  refine g_aload_n (pc' := 6) C dX3_hearingAt_5 rfl rfl ?_
  refine f_X3_35 (pc' := 9) C dX3_hearingAt_6 (by first | assumption | exact rfl | exact al13 rfl | exact Nat.le_of_ble_eq_true rfl) rfl ?_
  refine g_icmp_ge (tgt := 30) (pc' := 12) C dX3_hearingAt_9 (by decide) rfl (fun c2 => absurd c2 (by rw [hj, hc]; exact nI_ge (by omega) (by omega))) (fun c2 => ?_)
  refine g_iload_n (pc' := 13) C dX3_hearingAt_12 rfl rfl ?_
  refine g_aload_n (pc' := 14) C dX3_hearingAt_13 rfl rfl ?_
  refine f_X3_27 (pc' := 17) C dX3_hearingAt_14 (by first | assumption | exact rfl | exact al13 rfl | exact Nat.le_of_ble_eq_true rfl) rfl ?_
  refine g_alen (pc' := 18) (v := 24) (t0 := 3) C dX3_hearingAt_17 (by first | assumption | exact rfl | exact al13 rfl | exact Nat.le_of_ble_eq_true rfl) rfl rfl rfl rfl ?_
  refine g_icmp_ge (tgt := 30) (pc' := 21) C dX3_hearingAt_18 (by decide) rfl (fun c3 => absurd c3 (by rw [hj]; exact nI_ge (a := j) (b := 24) (by omega) (by omega))) (fun c3 => ?_)
  refine g_aload_n (pc' := 22) C dX3_hearingAt_21 rfl rfl ?_
  refine f_X3_27 (pc' := 25) C dX3_hearingAt_22 (by first | assumption | exact rfl | exact al13 rfl | exact Nat.le_of_ble_eq_true rfl) rfl ?_
  refine g_iload_n (pc' := 26) C dX3_hearingAt_25 rfl rfl ?_
  refine g_aald (pc' := 27) (t0 := 3) C (j) hj (by omega) (X.2.2.2.2.2.1 j hj4) dX3_hearingAt_26 (by first | assumption | exact rfl | exact al13 rfl | exact Nat.le_of_ble_eq_true rfl) rfl rfl rfl rfl ?_
  refine g_goto (tgt := 31) C dX3_hearingAt_27 (by decide) ?_
  exact g_aret C hR dX3_hearingAt_31 (Or.inr ⟨_, rfl⟩) ⟨rfl, rfl, rfl⟩
set_option maxRecDepth 20000 in
theorem m_X3_hearingAtN {l : Launch} {g : wG} {z : wZ} {I : wI} {P : wP} {O : wO} {x : Int32} (X : XI z I P) (h : x < 0 ∨ nI z.2 ≤ x) : RT l yX3_hearingAt cX3_hearingAt 2 ((some (.object "Hearingpay$Hearing"))) { frames := 0, cells := 0, slots := 0, locals := 0 } g z [.ref (g.2.2 0 0), .int x] I P O (dp (some (.null)) (I) (P)) := by
  refine RT.of (own := RX3) rfl (by decide +kernel) (Nat.le_of_ble_eq_true rfl) rfl (fun K C hl hg hR => ?_)
  subst hl
  subst hg
  refine g_iload_n (pc' := 1) C dX3_hearingAt_0 rfl rfl ?_
  refine g_if_lt (tgt := 30) (pc' := 4) C dX3_hearingAt_1 (by decide) rfl (fun c1 => ?_) (fun c1 => ?_)
  ·
    refine g_null (pc' := 31) C dX3_hearingAt_30 rfl ?_
    exact g_aret C hR dX3_hearingAt_31 (Or.inl rfl) ⟨rfl, rfl, rfl⟩
  ·
    refine g_iload_n (pc' := 5) C dX3_hearingAt_4 rfl rfl ?_
    refine g_aload_n (pc' := 6) C dX3_hearingAt_5 rfl rfl ?_
    refine f_X3_35 (pc' := 9) C dX3_hearingAt_6 (by first | assumption | exact rfl | exact al13 rfl | exact Nat.le_of_ble_eq_true rfl) rfl ?_
    refine g_icmp_ge (tgt := 30) (pc' := 12) C dX3_hearingAt_9 (by decide) rfl (fun c2 => ?_) (fun c2 => absurd (by rw [X.2.2.2.1]; exact h.resolve_left c1) c2)
    refine g_null (pc' := 31) C dX3_hearingAt_30 rfl ?_
    exact g_aret C hR dX3_hearingAt_31 (Or.inl rfl) ⟨rfl, rfl, rfl⟩
set_option maxRecDepth 20000 in
theorem m_X3_isToBegin {l : Launch} {g : wG} {z : wZ} {I : wI} {P : wP} {O : wO} {h : Nat} (hh : wAl z 3 h) : RT l yX3_isToBegin cX3_isToBegin 2 ((some .boolean)) { frames := 0, cells := 0, slots := 0, locals := 0 } g z [.ref (g.2.2 0 0), .ref (g.2.2 3 h)] I P O (dp (some (.int (b2 (decide (I 3 h 4 = 0) && !decide (I 3 h 7 ≤ I 0 0 6))))) (I) (P)) := by
  refine RT.of (own := RX3) rfl (by decide +kernel) (Nat.le_of_ble_eq_true rfl) rfl (fun K C hl hg hR => ?_)
  subst hl
  subst hg
  refine g_aload_n (pc' := 1) C dX3_isToBegin_0 rfl rfl ?_
  refine f_X3_178 (pc' := 4) C dX3_isToBegin_1 (by first | assumption | exact rfl | exact al13 rfl | exact Nat.le_of_ble_eq_true rfl) rfl ?_
  refine g_if_ne (tgt := 22) (pc' := 7) C dX3_isToBegin_4 (by decide) rfl (fun c1 => ?_) (fun c1 => ?_)
  ·
    refine g_iconst (v := 0) (pc' := 23) C dX3_isToBegin_22 (by decide) rfl ?_
    exact g_zret C hR dX3_isToBegin_23 rfl ⟨by simp [b2, inn, c1], rfl, rfl⟩
  ·
    refine g_aload_n (pc' := 8) C dX3_isToBegin_7 rfl rfl ?_
    refine f_X3_189 (pc' := 11) C dX3_isToBegin_8 (by first | assumption | exact rfl | exact al13 rfl | exact Nat.le_of_ble_eq_true rfl) rfl ?_
    refine g_aload_n (pc' := 12) C dX3_isToBegin_11 rfl rfl ?_
    refine f_X3_38 (pc' := 15) C dX3_isToBegin_12 (by first | assumption | exact rfl | exact al13 rfl | exact Nat.le_of_ble_eq_true rfl) rfl ?_
    refine g_icmp_le (tgt := 22) (pc' := 18) C dX3_isToBegin_15 (by decide) rfl (fun c2 => ?_) (fun c2 => ?_)
    ·
      refine g_iconst (v := 0) (pc' := 23) C dX3_isToBegin_22 (by decide) rfl ?_
      exact g_zret C hR dX3_isToBegin_23 rfl ⟨by simp [b2, inn, c1, c2], rfl, rfl⟩
    ·
      refine g_iconst (v := 1) (pc' := 19) C dX3_isToBegin_18 (by decide) rfl ?_
      refine g_goto (tgt := 23) C dX3_isToBegin_19 (by decide) ?_
      exact g_zret C hR dX3_isToBegin_23 rfl ⟨by simp [b2, inn, c1, c2], rfl, rfl⟩
set_option maxRecDepth 20000 in
theorem m_X3_isAsNeeded {l : Launch} {g : wG} {z : wZ} {I : wI} {P : wP} {O : wO} {m : Nat} {x : Int32} (X : XI z I P) (hm2 : wAl z 2 m) : RT l yX3_isAsNeeded cX3_isAsNeeded 4 ((some .boolean)) { frames := 1, cells := 0, slots := 0, locals := 21 } g z [.ref (g.2.2 0 0), .ref (g.2.2 2 m), .int x] I P O (dp (some (.int (b2 (asN I m x)))) (I) (P)) := by
  refine RT.of (own := RX3) rfl (by decide +kernel) (Nat.le_of_ble_eq_true rfl) rfl (fun K C hl hg hR => ?_)
  subst hl
  subst hg
  refine g_aload_n (pc' := 1) C dX3_isAsNeeded_0 rfl rfl ?_
  refine g_iload_n (pc' := 2) C dX3_isAsNeeded_1 rfl rfl ?_
  rcases in_of x 4 (by decide) with ⟨j, hj4, hj⟩ | hx
  · have hn : ¬ (x < 0 ∨ 4 ≤ x) := by rw [hj]; exact fun e => e.elim (nI_pos (by omega)) (nI_ge (a := j) (b := 4) hj4 (by decide))
    have hcl : x.toNatClampNeg = j := by rw [hj]; exact nI_clamp (by omega)
    have hi : wAl z 1 j := hj4
    refine k_X3_42 (pc' := 5) C (m_X3_interpreterAtS hj hj4 (X.2.2.2.2.2.2.1 j hj4)) dX3_isAsNeeded_2 (by first | assumption | exact rfl | exact al13 rfl | exact Nat.le_of_ble_eq_true rfl) ⟨⟨Nat.le_of_ble_eq_true rfl, Nat.le_of_ble_eq_true rfl⟩, rfl, rfl⟩ (Nat.le_of_ble_eq_true rfl) ⟨Nat.zero_le _, Nat.zero_le _⟩ rfl ?_
    refine g_astore_n (pc' := 6) C dX3_isAsNeeded_5 rfl rfl ?_
    refine g_aload_n (pc' := 7) C dX3_isAsNeeded_6 rfl rfl ?_
    refine f_X3_233 (pc' := 10) C dX3_isAsNeeded_7 (by first | assumption | exact rfl | exact al13 rfl | exact Nat.le_of_ble_eq_true rfl) rfl ?_
    refine g_iconst (v := (-1)) (pc' := 11) C dX3_isAsNeeded_10 (by decide) rfl ?_
    refine g_icmp_eq (tgt := 18) (pc' := 14) C dX3_isAsNeeded_11 (by decide) rfl (fun c1 => ?_) (fun c1 => ?_)
    ·
      refine g_aload_n (pc' := 19) C dX3_isAsNeeded_18 rfl rfl ?_
      refine f_X3_233 (pc' := 22) C dX3_isAsNeeded_19 (by first | assumption | exact rfl | exact al13 rfl | exact Nat.le_of_ble_eq_true rfl) rfl ?_
      refine g_iconst (v := (-1)) (pc' := 23) C dX3_isAsNeeded_22 (by decide) rfl ?_
      refine g_icmp_ne (tgt := 34) (pc' := 26) C dX3_isAsNeeded_23 (by decide) rfl (fun c2 => ?_) (fun c2 => ?_)
      ·
        refine g_iconst (v := 0) (pc' := 35) C dX3_isAsNeeded_34 (by decide) rfl ?_
        exact g_zret C hR dX3_isAsNeeded_35 rfl ⟨by simp [b2, asN, hn, hcl, c1, c2] <;> simp_all, rfl, rfl⟩
      ·
        refine g_aload_n (pc' := 27) C dX3_isAsNeeded_26 rfl rfl ?_
        refine g_ifnonnull (tgt := 34) C dX3_isAsNeeded_27 (by decide) ?_
        refine g_iconst (v := 0) (pc' := 35) C dX3_isAsNeeded_34 (by decide) rfl ?_
        exact g_zret C hR dX3_isAsNeeded_35 rfl ⟨by simp [b2, asN, hn, hcl, c1, c2] <;> simp_all, rfl, rfl⟩
    ·
      refine g_aload_n (pc' := 15) C dX3_isAsNeeded_14 rfl rfl ?_
      refine g_ifnonnull (tgt := 36) C dX3_isAsNeeded_15 (by decide) ?_
      refine g_aload_n (pc' := 37) C dX3_isAsNeeded_36 rfl rfl ?_
      refine g_aload_n (pc' := 38) C dX3_isAsNeeded_37 rfl rfl ?_
      refine f_X3_233 (pc' := 41) C dX3_isAsNeeded_38 (by first | assumption | exact rfl | exact al13 rfl | exact Nat.le_of_ble_eq_true rfl) rfl ?_
      refine k_X3_257 (pc' := 44) C (m_X1_knows hi) dX3_isAsNeeded_41 (by first | assumption | exact rfl | exact al13 rfl | exact Nat.le_of_ble_eq_true rfl) ⟨⟨Nat.le_of_ble_eq_true rfl, Nat.le_of_ble_eq_true rfl⟩, rfl, rfl⟩ (Nat.le_of_ble_eq_true rfl) ⟨Nat.zero_le _, Nat.zero_le _⟩ rfl ?_
      exact g_zret C hR dX3_isAsNeeded_44 (b2_n _) ⟨by simp [asN, hn, hcl, c1], rfl, rfl⟩
  · have hx : x < 0 ∨ 4 ≤ x := hx
    refine k_X3_42 (pc' := 5) C (m_X3_interpreterAtN hx) dX3_isAsNeeded_2 (by first | assumption | exact rfl | exact al13 rfl | exact Nat.le_of_ble_eq_true rfl) ⟨⟨Nat.le_of_ble_eq_true rfl, Nat.le_of_ble_eq_true rfl⟩, rfl, rfl⟩ (Nat.le_of_ble_eq_true rfl) ⟨Nat.zero_le _, Nat.zero_le _⟩ rfl ?_
    refine g_astore_nN (pc' := 6) C dX3_isAsNeeded_5 rfl rfl ?_
    refine g_aload_n (pc' := 7) C dX3_isAsNeeded_6 rfl rfl ?_
    refine f_X3_233 (pc' := 10) C dX3_isAsNeeded_7 (by first | assumption | exact rfl | exact al13 rfl | exact Nat.le_of_ble_eq_true rfl) rfl ?_
    refine g_iconst (v := (-1)) (pc' := 11) C dX3_isAsNeeded_10 (by decide) rfl ?_
    refine g_icmp_eq (tgt := 18) (pc' := 14) C dX3_isAsNeeded_11 (by decide) rfl (fun c3 => ?_) (fun c3 => ?_)
    ·
      refine g_aload_n (pc' := 19) C dX3_isAsNeeded_18 rfl rfl ?_
      refine f_X3_233 (pc' := 22) C dX3_isAsNeeded_19 (by first | assumption | exact rfl | exact al13 rfl | exact Nat.le_of_ble_eq_true rfl) rfl ?_
      refine g_iconst (v := (-1)) (pc' := 23) C dX3_isAsNeeded_22 (by decide) rfl ?_
      refine g_icmp_ne (tgt := 34) (pc' := 26) C dX3_isAsNeeded_23 (by decide) rfl (fun c4 => ?_) (fun c4 => ?_)
      ·
        refine g_iconst (v := 0) (pc' := 35) C dX3_isAsNeeded_34 (by decide) rfl ?_
        exact g_zret C hR dX3_isAsNeeded_35 rfl ⟨by simp [b2, asN, hx, c3, c4] <;> simp_all, rfl, rfl⟩
      ·
        refine g_aload_nN (pc' := 27) C dX3_isAsNeeded_26 rfl rfl ?_
        refine g_ifnonnullN (pc' := 30) C dX3_isAsNeeded_27 rfl ?_
        refine g_iconst (v := 1) (pc' := 31) C dX3_isAsNeeded_30 (by decide) rfl ?_
        refine g_goto (tgt := 35) C dX3_isAsNeeded_31 (by decide) ?_
        exact g_zret C hR dX3_isAsNeeded_35 rfl ⟨by simp [b2, asN, hx, c3, c4] <;> simp_all, rfl, rfl⟩
    ·
      refine g_aload_nN (pc' := 15) C dX3_isAsNeeded_14 rfl rfl ?_
      refine g_ifnonnullN (pc' := 18) C dX3_isAsNeeded_15 rfl ?_
      refine g_aload_n (pc' := 19) C dX3_isAsNeeded_18 rfl rfl ?_
      refine f_X3_233 (pc' := 22) C dX3_isAsNeeded_19 (by first | assumption | exact rfl | exact al13 rfl | exact Nat.le_of_ble_eq_true rfl) rfl ?_
      refine g_iconst (v := (-1)) (pc' := 23) C dX3_isAsNeeded_22 (by decide) rfl ?_
      refine g_icmp_ne (tgt := 34) (pc' := 26) C dX3_isAsNeeded_23 (by decide) rfl (fun c5 => ?_) (fun c5 => ?_)
      ·
        refine g_iconst (v := 0) (pc' := 35) C dX3_isAsNeeded_34 (by decide) rfl ?_
        exact g_zret C hR dX3_isAsNeeded_35 rfl ⟨by simp [b2, asN, hx, c3, c5] <;> simp_all, rfl, rfl⟩
      ·
        refine g_aload_nN (pc' := 27) C dX3_isAsNeeded_26 rfl rfl ?_
        refine g_ifnonnullN (pc' := 30) C dX3_isAsNeeded_27 rfl ?_
        refine g_iconst (v := 1) (pc' := 31) C dX3_isAsNeeded_30 (by decide) rfl ?_
        refine g_goto (tgt := 35) C dX3_isAsNeeded_31 (by decide) ?_
        exact g_zret C hR dX3_isAsNeeded_35 rfl ⟨by simp [b2, asN, hx, c3, c5] <;> simp_all, rfl, rfl⟩
set_option maxRecDepth 20000 in
theorem l_X3_clashReasonN {K : wK} {z : wZ} {I : wI} {P : wP} {O : wO} {post : Option Value → wI → wP → Prop} {m : Nat} {r itp fr oh : Int32} (C : Cx K cX3_clashReason RX3 11 (some .int) { frames := 3, cells := 0, slots := 0, locals := 66 } z) (hR : Rx K z O post) (X : XI z I P) (hm2 : wAl z 2 m) : ∀ (n h : Nat) (x7 x8 : Int32), x8 = nI h → h + n = z.2 → post (some (.int (crL I P none m r itp fr oh n h x7))) I P → G K z I P O 0 0 6 [(0, .ref ((Kg K).2.2 0 0)), (1, .null), (2, .ref ((Kg K).2.2 2 m)), (3, .int r), (4, .int itp), (5, .int fr), (6, .int oh), (7, .int x7), (8, .int x8)] [] := by
  intro n
  induction n with
  | zero =>
    intro h x7 x8 ex8 hk hpost
    refine g_iload (pc' := 8) C dX3_clashReason_6 rfl rfl ?_
    refine g_aload_n (pc' := 9) C dX3_clashReason_8 rfl rfl ?_
    refine f_X3_35 (pc' := 12) C dX3_clashReason_9 (by first | assumption | exact rfl | exact al13 rfl | exact Nat.le_of_ble_eq_true rfl) rfl ?_
    refine g_icmp_ge (tgt := 84) (pc' := 15) C dX3_clashReason_12 (by decide) rfl (fun _ => ?_) (fun q => absurd (by rw [ex8, X.2.2.2.1, show h = z.2 by omega]; exact Int32.le_refl _) q)
    refine g_iload (pc' := 86) C dX3_clashReason_84 rfl rfl ?_
    exact g_iret C hR dX3_clashReason_86 hpost
  | succ n ih =>
    intro h x7 x8 ex8 hk hpost
    have hhz : h < z.2 := by omega
    have hh : wAl z 3 h := hhz
    refine g_iload (pc' := 8) C dX3_clashReason_6 rfl rfl ?_
    refine g_aload_n (pc' := 9) C dX3_clashReason_8 rfl rfl ?_
    refine f_X3_35 (pc' := 12) C dX3_clashReason_9 (by first | assumption | exact rfl | exact al13 rfl | exact Nat.le_of_ble_eq_true rfl) rfl ?_
    refine g_icmp_ge (tgt := 84) (pc' := 15) C dX3_clashReason_12 (by decide) rfl (fun c1 => absurd c1 (by rw [ex8, X.2.2.2.1]; exact nI_ge hhz (by have := X.2.1; omega))) (fun c1 => ?_)
    refine g_aload_n (pc' := 16) C dX3_clashReason_15 rfl rfl ?_
    refine g_iload (pc' := 18) C dX3_clashReason_16 rfl rfl ?_
    refine k_X3_149 (pc' := 21) C (m_X3_hearingAtS X ex8 hhz) dX3_clashReason_18 (by first | assumption | exact rfl | exact al13 rfl | exact Nat.le_of_ble_eq_true rfl) ⟨⟨Nat.le_of_ble_eq_true rfl, Nat.le_of_ble_eq_true rfl⟩, rfl, rfl⟩ (Nat.le_of_ble_eq_true rfl) ⟨Nat.zero_le _, Nat.zero_le _⟩ rfl ?_
    refine g_astore (pc' := 23) C dX3_clashReason_21 rfl rfl ?_
    refine g_aload (pc' := 25) C dX3_clashReason_23 rfl rfl ?_
    refine g_ifnull (pc' := 28) C dX3_clashReason_25 rfl ?_
    refine g_aload (pc' := 30) C dX3_clashReason_28 rfl rfl ?_
    refine g_aload_nN (pc' := 31) C dX3_clashReason_30 rfl rfl ?_
    refine g_acmp_eq (x := some _) (y := none) (tgt := 78) (pc' := 34) C dX3_clashReason_31 (by decide) rfl (fun q => by cases q) (fun _ => ?_)
    refine g_aload (pc' := 36) C dX3_clashReason_34 rfl rfl ?_
    refine g_iload (pc' := 38) C dX3_clashReason_36 rfl rfl ?_
    refine g_iload (pc' := 40) C dX3_clashReason_38 rfl rfl ?_
    refine k_X3_218 (pc' := 43) C (m_X0_takesPartOf hh) dX3_clashReason_40 (by first | assumption | exact rfl | exact al13 rfl | exact Nat.le_of_ble_eq_true rfl) ⟨⟨Nat.le_of_ble_eq_true rfl, Nat.le_of_ble_eq_true rfl⟩, rfl, rfl⟩ (Nat.le_of_ble_eq_true rfl) ⟨Nat.zero_le _, Nat.zero_le _⟩ rfl ?_
    refine g_if_eq (tgt := 78) (pc' := 46) C dX3_clashReason_43 (by decide) rfl (fun c2 => ?_) (fun c2 => ?_)
    ·
      have c2 := b2_0.mp c2
      refine g_iinc (pc' := 81) C dX3_clashReason_78 rfl (ii1 _) rfl rfl ?_
      refine g_goto (tgt := 6) C dX3_clashReason_81 (by decide) ?_
      refine G_pick [0, 1, 2, 3, 4, 5, 6, 7, 8] rfl (ih (h + 1) _ _ (by rw [ex8]; exact (nI_1 h)) (by omega) ?_)
      simpa [crL, crS, c1, c2] using hpost
    ·
      have c2 := b2_1.mp c2
      refine g_aload (pc' := 48) C dX3_clashReason_46 rfl rfl ?_
      refine g_aload_n (pc' := 49) C dX3_clashReason_48 rfl rfl ?_
      refine g_iload_n (pc' := 50) C dX3_clashReason_49 rfl rfl ?_
      refine g_iload (pc' := 52) C dX3_clashReason_50 rfl rfl ?_
      refine k_X3_260 (pc' := 55) C (m_X0_reasonAgainst hh (X.hm hh) (X.hm2 hh) hm2) dX3_clashReason_52 (by first | assumption | exact rfl | exact al13 rfl | exact Nat.le_of_ble_eq_true rfl) ⟨⟨Nat.le_of_ble_eq_true rfl, Nat.le_of_ble_eq_true rfl⟩, rfl, rfl⟩ (Nat.le_of_ble_eq_true rfl) ⟨Nat.zero_le _, Nat.zero_le _⟩ rfl ?_
      refine g_istore (pc' := 57) C dX3_clashReason_55 rfl rfl ?_
      refine g_iload (pc' := 59) C dX3_clashReason_57 rfl rfl ?_
      refine g_if_eq (tgt := 78) (pc' := 62) C dX3_clashReason_59 (by decide) rfl (fun c3 => ?_) (fun c3 => ?_)
      ·
        refine g_iinc (pc' := 81) C dX3_clashReason_78 rfl (ii1 _) rfl rfl ?_
        refine g_goto (tgt := 6) C dX3_clashReason_81 (by decide) ?_
        refine G_pick [0, 1, 2, 3, 4, 5, 6, 7, 8] rfl (ih (h + 1) _ _ (by rw [ex8]; exact (nI_1 h)) (by omega) ?_)
        simpa [crL, crS, c1, c2, c3] using hpost
      ·
        refine g_iload (pc' := 64) C dX3_clashReason_62 rfl rfl ?_
        refine g_if_eq (tgt := 74) (pc' := 67) C dX3_clashReason_64 (by decide) rfl (fun c4 => ?_) (fun c4 => ?_)
        ·
          refine g_iload (pc' := 76) C dX3_clashReason_74 rfl rfl ?_
          refine g_istore (pc' := 78) C dX3_clashReason_76 rfl rfl ?_
          refine g_iinc (pc' := 81) C dX3_clashReason_78 rfl (ii1 _) rfl rfl ?_
          refine g_goto (tgt := 6) C dX3_clashReason_81 (by decide) ?_
          refine G_pick [0, 1, 2, 3, 4, 5, 6, 7, 8] rfl (ih (h + 1) _ _ (by rw [ex8]; exact (nI_1 h)) (by omega) ?_)
          simpa [crL, crS, c1, c2, c3, c4] using hpost
        ·
          refine g_iload (pc' := 69) C dX3_clashReason_67 rfl rfl ?_
          refine g_iload (pc' := 71) C dX3_clashReason_69 rfl rfl ?_
          refine g_icmp_ge (tgt := 78) (pc' := 74) C dX3_clashReason_71 (by decide) rfl (fun c5 => ?_) (fun c5 => ?_)
          ·
            refine g_iinc (pc' := 81) C dX3_clashReason_78 rfl (ii1 _) rfl rfl ?_
            refine g_goto (tgt := 6) C dX3_clashReason_81 (by decide) ?_
            refine G_pick [0, 1, 2, 3, 4, 5, 6, 7, 8] rfl (ih (h + 1) _ _ (by rw [ex8]; exact (nI_1 h)) (by omega) ?_)
            simpa [crL, crS, c1, c2, c3, c4, c5] using hpost
          ·
            refine g_iload (pc' := 76) C dX3_clashReason_74 rfl rfl ?_
            refine g_istore (pc' := 78) C dX3_clashReason_76 rfl rfl ?_
            refine g_iinc (pc' := 81) C dX3_clashReason_78 rfl (ii1 _) rfl rfl ?_
            refine g_goto (tgt := 6) C dX3_clashReason_81 (by decide) ?_
            refine G_pick [0, 1, 2, 3, 4, 5, 6, 7, 8] rfl (ih (h + 1) _ _ (by rw [ex8]; exact (nI_1 h)) (by omega) ?_)
            simpa [crL, crS, c1, c2, c3, c4, c5] using hpost
set_option maxRecDepth 20000 in
theorem m_X3_clashReasonN {l : Launch} {g : wG} {z : wZ} {I : wI} {P : wP} {O : wO} {m : Nat} {r itp fr oh : Int32} (X : XI z I P) (hm2 : wAl z 2 m) : RT l yX3_clashReason cX3_clashReason 11 ((some .int)) { frames := 3, cells := 0, slots := 0, locals := 66 } g z [.ref (g.2.2 0 0), .null, .ref (g.2.2 2 m), .int r, .int itp, .int fr, .int oh] I P O (dp (some (.int (crL I P none m r itp fr oh z.2 0 0))) (I) (P)) := by
  refine RT.of (own := RX3) rfl (by decide +kernel) (Nat.le_of_ble_eq_true rfl) rfl (fun K C hl hg hR => ?_)
  subst hl
  subst hg
  refine g_iconst (v := 0) (pc' := 1) C dX3_clashReason_0 (by decide) rfl ?_
  refine g_istore (pc' := 3) C dX3_clashReason_1 rfl rfl ?_
  refine g_iconst (v := 0) (pc' := 4) C dX3_clashReason_3 (by decide) rfl ?_
  refine g_istore (pc' := 6) C dX3_clashReason_4 rfl rfl ?_
  exact l_X3_clashReasonN C hR X hm2 z.2 0 0 0 nI_0.symm (by omega) ⟨rfl, rfl, rfl⟩
set_option maxRecDepth 20000 in
theorem l_X3_clashReasonR {K : wK} {z : wZ} {I : wI} {P : wP} {O : wO} {post : Option Value → wI → wP → Prop} {m : Nat} {r itp fr oh : Int32} (C : Cx K cX3_clashReason RX3 11 (some .int) { frames := 3, cells := 0, slots := 0, locals := 66 } z) (hR : Rx K z O post) (X : XI z I P) (hm2 : wAl z 2 m) {i0 : Nat} (hi0 : wAl z 3 i0) : ∀ (n h : Nat) (x7 x8 : Int32), x8 = nI h → h + n = z.2 → post (some (.int (crL I P (some i0) m r itp fr oh n h x7))) I P → G K z I P O 0 0 6 [(0, .ref ((Kg K).2.2 0 0)), (1, .ref ((Kg K).2.2 3 i0)), (2, .ref ((Kg K).2.2 2 m)), (3, .int r), (4, .int itp), (5, .int fr), (6, .int oh), (7, .int x7), (8, .int x8)] [] := by
  intro n
  induction n with
  | zero =>
    intro h x7 x8 ex8 hk hpost
    refine g_iload (pc' := 8) C dX3_clashReason_6 rfl rfl ?_
    refine g_aload_n (pc' := 9) C dX3_clashReason_8 rfl rfl ?_
    refine f_X3_35 (pc' := 12) C dX3_clashReason_9 (by first | assumption | exact rfl | exact al13 rfl | exact Nat.le_of_ble_eq_true rfl) rfl ?_
    refine g_icmp_ge (tgt := 84) (pc' := 15) C dX3_clashReason_12 (by decide) rfl (fun _ => ?_) (fun q => absurd (by rw [ex8, X.2.2.2.1, show h = z.2 by omega]; exact Int32.le_refl _) q)
    refine g_iload (pc' := 86) C dX3_clashReason_84 rfl rfl ?_
    exact g_iret C hR dX3_clashReason_86 hpost
  | succ n ih =>
    intro h x7 x8 ex8 hk hpost
    have hhz : h < z.2 := by omega
    have hh : wAl z 3 h := hhz
    refine g_iload (pc' := 8) C dX3_clashReason_6 rfl rfl ?_
    refine g_aload_n (pc' := 9) C dX3_clashReason_8 rfl rfl ?_
    refine f_X3_35 (pc' := 12) C dX3_clashReason_9 (by first | assumption | exact rfl | exact al13 rfl | exact Nat.le_of_ble_eq_true rfl) rfl ?_
    refine g_icmp_ge (tgt := 84) (pc' := 15) C dX3_clashReason_12 (by decide) rfl (fun c1 => absurd c1 (by rw [ex8, X.2.2.2.1]; exact nI_ge hhz (by have := X.2.1; omega))) (fun c1 => ?_)
    refine g_aload_n (pc' := 16) C dX3_clashReason_15 rfl rfl ?_
    refine g_iload (pc' := 18) C dX3_clashReason_16 rfl rfl ?_
    refine k_X3_149 (pc' := 21) C (m_X3_hearingAtS X ex8 hhz) dX3_clashReason_18 (by first | assumption | exact rfl | exact al13 rfl | exact Nat.le_of_ble_eq_true rfl) ⟨⟨Nat.le_of_ble_eq_true rfl, Nat.le_of_ble_eq_true rfl⟩, rfl, rfl⟩ (Nat.le_of_ble_eq_true rfl) ⟨Nat.zero_le _, Nat.zero_le _⟩ rfl ?_
    refine g_astore (pc' := 23) C dX3_clashReason_21 rfl rfl ?_
    refine g_aload (pc' := 25) C dX3_clashReason_23 rfl rfl ?_
    refine g_ifnull (pc' := 28) C dX3_clashReason_25 rfl ?_
    refine g_aload (pc' := 30) C dX3_clashReason_28 rfl rfl ?_
    refine g_aload_n (pc' := 31) C dX3_clashReason_30 rfl rfl ?_
    refine g_acmp_eq2 (tgt := 78) (pc' := 34) C (by first | assumption | exact rfl | exact al13 rfl | exact Nat.le_of_ble_eq_true rfl) (by first | assumption | exact rfl | exact al13 rfl | exact Nat.le_of_ble_eq_true rfl) dX3_clashReason_31 (by decide) rfl (fun c2 => ?_) (fun c2 => ?_)
    ·
      refine g_iinc (pc' := 81) C dX3_clashReason_78 rfl (ii1 _) rfl rfl ?_
      refine g_goto (tgt := 6) C dX3_clashReason_81 (by decide) ?_
      refine G_pick [0, 1, 2, 3, 4, 5, 6, 7, 8] rfl (ih (h + 1) _ _ (by rw [ex8]; exact (nI_1 h)) (by omega) ?_)
      first | simpa [crL, crS, c1, c2, Ne.symm c2] using hpost | simpa [crL, crS, c1, c2] using hpost
    ·
      refine g_aload (pc' := 36) C dX3_clashReason_34 rfl rfl ?_
      refine g_iload (pc' := 38) C dX3_clashReason_36 rfl rfl ?_
      refine g_iload (pc' := 40) C dX3_clashReason_38 rfl rfl ?_
      refine k_X3_218 (pc' := 43) C (m_X0_takesPartOf hh) dX3_clashReason_40 (by first | assumption | exact rfl | exact al13 rfl | exact Nat.le_of_ble_eq_true rfl) ⟨⟨Nat.le_of_ble_eq_true rfl, Nat.le_of_ble_eq_true rfl⟩, rfl, rfl⟩ (Nat.le_of_ble_eq_true rfl) ⟨Nat.zero_le _, Nat.zero_le _⟩ rfl ?_
      refine g_if_eq (tgt := 78) (pc' := 46) C dX3_clashReason_43 (by decide) rfl (fun c3 => ?_) (fun c3 => ?_)
      ·
        have c3 := b2_0.mp c3
        refine g_iinc (pc' := 81) C dX3_clashReason_78 rfl (ii1 _) rfl rfl ?_
        refine g_goto (tgt := 6) C dX3_clashReason_81 (by decide) ?_
        refine G_pick [0, 1, 2, 3, 4, 5, 6, 7, 8] rfl (ih (h + 1) _ _ (by rw [ex8]; exact (nI_1 h)) (by omega) ?_)
        first | simpa [crL, crS, c1, c2, c3, Ne.symm c2] using hpost | simpa [crL, crS, c1, c2, c3] using hpost
      ·
        have c3 := b2_1.mp c3
        refine g_aload (pc' := 48) C dX3_clashReason_46 rfl rfl ?_
        refine g_aload_n (pc' := 49) C dX3_clashReason_48 rfl rfl ?_
        refine g_iload_n (pc' := 50) C dX3_clashReason_49 rfl rfl ?_
        refine g_iload (pc' := 52) C dX3_clashReason_50 rfl rfl ?_
        refine k_X3_260 (pc' := 55) C (m_X0_reasonAgainst hh (X.hm hh) (X.hm2 hh) hm2) dX3_clashReason_52 (by first | assumption | exact rfl | exact al13 rfl | exact Nat.le_of_ble_eq_true rfl) ⟨⟨Nat.le_of_ble_eq_true rfl, Nat.le_of_ble_eq_true rfl⟩, rfl, rfl⟩ (Nat.le_of_ble_eq_true rfl) ⟨Nat.zero_le _, Nat.zero_le _⟩ rfl ?_
        refine g_istore (pc' := 57) C dX3_clashReason_55 rfl rfl ?_
        refine g_iload (pc' := 59) C dX3_clashReason_57 rfl rfl ?_
        refine g_if_eq (tgt := 78) (pc' := 62) C dX3_clashReason_59 (by decide) rfl (fun c4 => ?_) (fun c4 => ?_)
        ·
          refine g_iinc (pc' := 81) C dX3_clashReason_78 rfl (ii1 _) rfl rfl ?_
          refine g_goto (tgt := 6) C dX3_clashReason_81 (by decide) ?_
          refine G_pick [0, 1, 2, 3, 4, 5, 6, 7, 8] rfl (ih (h + 1) _ _ (by rw [ex8]; exact (nI_1 h)) (by omega) ?_)
          first | simpa [crL, crS, c1, c2, c3, c4, Ne.symm c2] using hpost | simpa [crL, crS, c1, c2, c3, c4] using hpost
        ·
          refine g_iload (pc' := 64) C dX3_clashReason_62 rfl rfl ?_
          refine g_if_eq (tgt := 74) (pc' := 67) C dX3_clashReason_64 (by decide) rfl (fun c5 => ?_) (fun c5 => ?_)
          ·
            refine g_iload (pc' := 76) C dX3_clashReason_74 rfl rfl ?_
            refine g_istore (pc' := 78) C dX3_clashReason_76 rfl rfl ?_
            refine g_iinc (pc' := 81) C dX3_clashReason_78 rfl (ii1 _) rfl rfl ?_
            refine g_goto (tgt := 6) C dX3_clashReason_81 (by decide) ?_
            refine G_pick [0, 1, 2, 3, 4, 5, 6, 7, 8] rfl (ih (h + 1) _ _ (by rw [ex8]; exact (nI_1 h)) (by omega) ?_)
            first | simpa [crL, crS, c1, c2, c3, c4, c5, Ne.symm c2] using hpost | simpa [crL, crS, c1, c2, c3, c4, c5] using hpost
          ·
            refine g_iload (pc' := 69) C dX3_clashReason_67 rfl rfl ?_
            refine g_iload (pc' := 71) C dX3_clashReason_69 rfl rfl ?_
            refine g_icmp_ge (tgt := 78) (pc' := 74) C dX3_clashReason_71 (by decide) rfl (fun c6 => ?_) (fun c6 => ?_)
            ·
              refine g_iinc (pc' := 81) C dX3_clashReason_78 rfl (ii1 _) rfl rfl ?_
              refine g_goto (tgt := 6) C dX3_clashReason_81 (by decide) ?_
              refine G_pick [0, 1, 2, 3, 4, 5, 6, 7, 8] rfl (ih (h + 1) _ _ (by rw [ex8]; exact (nI_1 h)) (by omega) ?_)
              first | simpa [crL, crS, c1, c2, c3, c4, c5, c6, Ne.symm c2] using hpost | simpa [crL, crS, c1, c2, c3, c4, c5, c6] using hpost
            ·
              refine g_iload (pc' := 76) C dX3_clashReason_74 rfl rfl ?_
              refine g_istore (pc' := 78) C dX3_clashReason_76 rfl rfl ?_
              refine g_iinc (pc' := 81) C dX3_clashReason_78 rfl (ii1 _) rfl rfl ?_
              refine g_goto (tgt := 6) C dX3_clashReason_81 (by decide) ?_
              refine G_pick [0, 1, 2, 3, 4, 5, 6, 7, 8] rfl (ih (h + 1) _ _ (by rw [ex8]; exact (nI_1 h)) (by omega) ?_)
              first | simpa [crL, crS, c1, c2, c3, c4, c5, c6, Ne.symm c2] using hpost | simpa [crL, crS, c1, c2, c3, c4, c5, c6] using hpost
set_option maxRecDepth 20000 in
theorem m_X3_clashReasonR {l : Launch} {g : wG} {z : wZ} {I : wI} {P : wP} {O : wO} {m : Nat} {r itp fr oh : Int32} (X : XI z I P) (hm2 : wAl z 2 m) {i0 : Nat} (hi0 : wAl z 3 i0) : RT l yX3_clashReason cX3_clashReason 11 ((some .int)) { frames := 3, cells := 0, slots := 0, locals := 66 } g z [.ref (g.2.2 0 0), .ref (g.2.2 3 i0), .ref (g.2.2 2 m), .int r, .int itp, .int fr, .int oh] I P O (dp (some (.int (crL I P (some i0) m r itp fr oh z.2 0 0))) (I) (P)) := by
  refine RT.of (own := RX3) rfl (by decide +kernel) (Nat.le_of_ble_eq_true rfl) rfl (fun K C hl hg hR => ?_)
  subst hl
  subst hg
  refine g_iconst (v := 0) (pc' := 1) C dX3_clashReason_0 (by decide) rfl ?_
  refine g_istore (pc' := 3) C dX3_clashReason_1 rfl rfl ?_
  refine g_iconst (v := 0) (pc' := 4) C dX3_clashReason_3 (by decide) rfl ?_
  refine g_istore (pc' := 6) C dX3_clashReason_4 rfl rfl ?_
  exact l_X3_clashReasonR C hR X hm2 hi0 z.2 0 0 0 nI_0.symm (by omega) ⟨rfl, rfl, rfl⟩
set_option maxRecDepth 20000 in
theorem m_X3_feeFor {l : Launch} {g : wG} {z : wZ} {I : wI} {P : wP} {O : wO} {m : Nat} {x : Int32} (X : XI z I P) (hm2 : wAl z 2 m) : RT l yX3_feeFor cX3_feeFor 4 ((some .int)) { frames := 0, cells := 0, slots := 0, locals := 0 } g z [.ref (g.2.2 0 0), .ref (g.2.2 2 m), .int x] I P O (dp (some (.int (ff I m x))) (I) (P)) := by
  refine RT.of (own := RX3) rfl (by decide +kernel) (Nat.le_of_ble_eq_true rfl) rfl (fun K C hl hg hR => ?_)
  subst hl
  subst hg
  have hf := X.fs hm2
  have hf6 := X.fs6 hm2
  refine g_aload_n (pc' := 1) C dX3_feeFor_0 rfl rfl ?_
  refine f_X3_227 (pc' := 4) C dX3_feeFor_1 (by first | assumption | exact rfl | exact al13 rfl | exact Nat.le_of_ble_eq_true rfl) rfl ?_
  refine g_if_lt (tgt := 35) (pc' := 7) C dX3_feeFor_4 (by decide) rfl (fun c1 => absurd c1 (by rw [hf]; exact nI_pos (by omega))) (fun c1 => ?_)
  refine g_aload_n (pc' := 8) C dX3_feeFor_7 rfl rfl ?_
  refine f_X3_227 (pc' := 11) C dX3_feeFor_8 (by first | assumption | exact rfl | exact al13 rfl | exact Nat.le_of_ble_eq_true rfl) rfl ?_
  refine g_aload_n (pc' := 12) C dX3_feeFor_11 rfl rfl ?_
  refine f_X3_15 (pc' := 15) C dX3_feeFor_12 (by first | assumption | exact rfl | exact al13 rfl | exact Nat.le_of_ble_eq_true rfl) rfl ?_
  refine g_alen (pc' := 16) (v := 6) (t0 := 1) C dX3_feeFor_15 (by first | assumption | exact rfl | exact al13 rfl | exact Nat.le_of_ble_eq_true rfl) rfl rfl rfl rfl ?_
  refine g_icmp_ge (tgt := 35) (pc' := 19) C dX3_feeFor_16 (by decide) rfl (fun c2 => absurd c2 (by rw [hf]; exact nI_ge (a := fsN I m) (b := 6) hf6 (by decide))) (fun c2 => ?_)
  refine g_aload_n (pc' := 20) C dX3_feeFor_19 rfl rfl ?_
  refine f_X3_15 (pc' := 23) C dX3_feeFor_20 (by first | assumption | exact rfl | exact al13 rfl | exact Nat.le_of_ble_eq_true rfl) rfl ?_
  refine g_aload_n (pc' := 24) C dX3_feeFor_23 rfl rfl ?_
  refine f_X3_227 (pc' := 27) C dX3_feeFor_24 (by first | assumption | exact rfl | exact al13 rfl | exact Nat.le_of_ble_eq_true rfl) rfl ?_
  refine g_zald (pc' := 28) C (fsN I m) hf hf6 dX3_feeFor_27 (by first | assumption | exact rfl | exact al13 rfl | exact Nat.le_of_ble_eq_true rfl) rfl rfl rfl ?_
  refine g_if_eq (tgt := 35) (pc' := 31) C dX3_feeFor_28 (by decide) rfl (fun c3 => ?_) (fun c3 => ?_)
  ·
    refine g_iconst (v := 0) (pc' := 36) C dX3_feeFor_35 (by decide) rfl ?_
    refine g_istore_n (pc' := 37) C dX3_feeFor_36 rfl rfl ?_
    refine g_iload_n (pc' := 38) C dX3_feeFor_37 rfl rfl ?_
    refine g_if_eq (tgt := 45) (pc' := 41) C dX3_feeFor_38 (by decide) rfl (fun c4 => ?_) (fun c4 => absurd (by first | decide | rw [thv]; decide) c4)
    refine g_iload_n (pc' := 46) C dX3_feeFor_45 rfl rfl ?_
    exact g_iret C hR dX3_feeFor_46 ⟨by simp [ff, c1, c2, c3, c4] <;> (intros; simp_all) , rfl, rfl⟩
  ·
    refine g_iconst (v := 1) (pc' := 32) C dX3_feeFor_31 (by decide) rfl ?_
    refine g_goto (tgt := 36) C dX3_feeFor_32 (by decide) ?_
    refine g_istore_n (pc' := 37) C dX3_feeFor_36 rfl rfl ?_
    refine g_iload_n (pc' := 38) C dX3_feeFor_37 rfl rfl ?_
    refine g_if_eq (tgt := 45) (pc' := 41) C dX3_feeFor_38 (by decide) rfl (fun c5 => absurd c5 (by first | decide | rw [thv]; decide)) (fun c5 => ?_)
    refine g_iconst (v := 0) (pc' := 42) C dX3_feeFor_41 (by decide) rfl ?_
    refine g_goto (tgt := 46) C dX3_feeFor_42 (by decide) ?_
    exact g_iret C hR dX3_feeFor_46 ⟨by simp [ff, c1, c2, c3, c5] <;> (intros; simp_all) , rfl, rfl⟩
set_option maxRecDepth 20000 in
theorem m_X3_hour {l : Launch} {g : wG} {z : wZ} {I : wI} {P : wP} {O : wO} : RT l yX3_hour cX3_hour 1 ((some .int)) { frames := 0, cells := 0, slots := 0, locals := 0 } g z [.ref (g.2.2 0 0)] I P O (dp (some (.int (I 0 0 6))) (I) (P)) := by
  refine RT.of (own := RX3) rfl (by decide +kernel) (Nat.le_of_ble_eq_true rfl) rfl (fun K C hl hg hR => ?_)
  subst hl
  subst hg
  refine g_aload_n (pc' := 1) C dX3_hour_0 rfl rfl ?_
  refine f_X3_38 (pc' := 4) C dX3_hour_1 (by first | assumption | exact rfl | exact al13 rfl | exact Nat.le_of_ble_eq_true rfl) rfl ?_
  exact g_iret C hR dX3_hour_4 ⟨rfl, rfl, rfl⟩
end WHelp
end
section
section WMove
theorem XI.upI {z : wZ} {I : wI} {P : wP} (X : XI z I P) {k j c : Nat} (v : Int32) (h0 : k ≠ 0 ∨ c = 6) (h3 : k ≠ 3 ∨ c ≠ 2) (h2 : k ≠ 2 ∨ c ≠ 2) : XI z (upI I k j c v) P := X.of (by rw [upI_at, if_neg (by omega)]) (by rw [upI_at, if_neg (by omega)]) (fun h => by rw [upI_at, if_neg (by omega)]) (fun m => by rw [upI_at, if_neg (by omega)]) (fun _ _ _ => rfl) (fun i p q hi hp h => X.h9 hi hp h)
theorem XI.upP9 {z : wZ} {I : wI} {P : wP} (X : XI z I P) {i p : Nat} {v : Option Nat} (hv : ∀ q, v = some q → q < z.1) : XI z I (upP P 9 i p v) := X.of rfl rfl (fun _ => rfl) (fun _ => rfl) (fun k j hk => upP_off P v (fun e => hk e.1)) (fun i2 p2 q hi hp h => by
  rw [upP_at] at h
  split at h
  · exact hv q h
  · exact X.h9 hi hp h)
theorem tkI_off {I : wI} {P : wP} {i m : Nat} {x y : Int32} {k j c : Nat} (h : ¬ (k = 2 ∧ c = 6)) : tkI I P i m x y k j c = I k j c := by
  unfold tkI
  cases py I P i x y with
  | none => rfl
  | some q =>
    by_cases e : q = m
    · simp only [if_pos e]
    · simp only [if_neg e]
      rw [upI_at, if_neg (by omega)]
theorem tkP_off {I : wI} {P : wP} {i : Nat} {x y : Int32} {k j : Nat} (h : k ≠ 9) : tkP I P i x y k j = P k j := by
  unfold tkP
  cases py I P i x y with
  | none => rfl
  | some q => exact upP_off P _ (fun e => h e.1)
theorem XI.tk {z : wZ} {I : wI} {P : wP} (X : XI z I P) {i m : Nat} {x y : Int32} : XI z (tkI I P i m x y) (tkP I P i x y) := X.of (tkI_off (by omega)) (tkI_off (by omega)) (fun _ => tkI_off (by omega)) (fun _ => tkI_off (by omega)) (fun k j hk => tkP_off hk) (fun i2 p q hi hp h => by
  unfold tkP at h
  cases hpy : py I P i x y with
  | none => rw [hpy] at h; exact X.h9 hi hp h
  | some _ =>
    rw [hpy] at h
    simp only [] at h
    rw [upP_at] at h
    split at h
    · cases h
    · exact X.h9 hi hp h)
theorem XI.kp {z : wZ} {I : wI} {P : wP} (X : XI z I P) {i m : Nat} {x y : Int32} (hm : wAl z 2 m) : XI z (kpI I i x y) (kpP P i m x) := XI.upP9 (XI.upI (XI.upI X _ (by omega) (by omega) (by omega)) _ (by omega) (by omega) (by omega)) (fun q e => by cases e; exact hm)
theorem XI.pt {z : wZ} {s : wI × wP} (X : XI z s.1 s.2) {i m h k : Nat} {fr now : Int32} : XI z (ptS i m h fr now k s).1 (ptS i m h fr now k s).2 := XI.upI X.tk _ (by omega) (by omega) (by omega)
theorem XI.lv {z : wZ} {s : wI × wP} (X : XI z s.1 s.2) {i m h k : Nat} (hm : wAl z 2 m) : XI z (lvS i m h k s).1 (lvS i m h k s).2 := X.kp hm
theorem XI.lvL {z : wZ} {i m h : Nat} (hm : wAl z 2 m) : ∀ (n k : Nat) (s : wI × wP), XI z s.1 s.2 → XI z (lvL i m h n k s).1 (lvL i m h n k s).2
  | 0, _, _, X => X
  | n + 1, k, s, X => XI.lvL hm n (k + 1) _ (X.lv hm)
def lvR (I : wI) (P : wP) (h : Nat) : wI × wP := if I 3 h 7 - I 0 0 6 < 8 then (if I 3 h 6 < 0 ∨ 4 ≤ I 3 h 6 then (I, P) else lvL (I 3 h 6).toNatClampNeg (mx P h) h (hrN I h) 0 (I, P)) else (upI I 2 (mx P h) 6 (I 2 (mx P h) 6 + chg I h), P)
theorem XI.lvR {z : wZ} {I : wI} {P : wP} {h : Nat} (X : XI z I P) (hh : wAl z 3 h) : XI z (lvR I P h).1 (lvR I P h).2 := by
  unfold Jvm.Pilot.CHearingpayLaw_law_r6972_369389.lvR
  split
  · split
    · exact X
    · exact XI.lvL (X.hm2 hh) _ _ _ X
  · exact XI.upI X _ (by omega) (by omega) (by omega)
def putS (I : wI) (P : wP) (h i : Nat) (r x f : Int32) : wI × wP := (putB (ptL i (mx P h) h f (I 0 0 6) (hrN I h) 0 (sA I h r x f, P)).1 (mx P h) h, (ptL i (mx P h) h f (I 0 0 6) (hrN I h) 0 (sA I h r x f, P)).2)
def putN (I : wI) (P : wP) (h : Nat) (r x f : Int32) : wI := putB (p0L h (hrN I h) 0 (sA I h r x f)) (mx P h) h
def daS (m h : Nat) (s : wI × wP × Int32) : wI × wP × Int32 := if mx s.2.1 h = m ∧ s.1 3 h 4 = 0 then (if ¬ s.1 3 h 7 ≤ s.1 0 0 6 then (upI (lvR s.1 s.2.1 h).1 3 h 4 3, (lvR s.1 s.2.1 h).2, s.2.2 + 1) else (upI s.1 3 h 4 3, s.2.1, s.2.2 + 1)) else s
def daL (m : Nat) : Nat → Nat → wI × wP × Int32 → wI × wP × Int32
  | 0, _, s => s
  | n + 1, h, s => daL m n (h + 1) (daS m h s)
def ehS (P : wP) (h : Nat) (s : wI × Int32) : wI × Int32 := if s.1 3 h 4 = 0 ∧ ¬ s.1 0 0 6 < s.1 3 h 7 + s.1 3 h 2 then (hE s.1 (mx P h) h, if hE s.1 (mx P h) h 3 h 4 = 1 then s.2 + 1 else s.2) else s
def ehL (P : wP) : Nat → Nat → wI × Int32 → wI × Int32
  | 0, _, s => s
  | n + 1, h, s => ehL P n (h + 1) (ehS P h s)
def rtL (now : Int32) : Nat → Nat → wI → wI
  | 0, _, I => I
  | n + 1, m, I => rtL now n (m + 1) (rT I m now)
def phL (I : wI) (P : wP) (m : Nat) : Nat → Nat → Int32 → Int32
  | 0, _, x => x
  | n + 1, i, x => phL I P m n (i + 1) (x + hpL I P i m (I 0 0 6) 16 0 0)
def phO (I : wI) (P : wP) (m : Nat) : Int32 := phL I P m 4 0 0
theorem rT_off {I : wI} {m : Nat} {now : Int32} {k j c : Nat} (h : ¬ (k = 2 ∧ (c = 5 ∨ c = 7))) : rT I m now k j c = I k j c := by
  unfold rT
  split
  · rw [upI_at, if_neg (by omega)]
  · split
    · rw [upI_at, if_neg (by omega)]
    · rfl
theorem hE_off {I : wI} {m h : Nat} {k j c : Nat} (h2 : ¬ (k = 2 ∧ c = 5)) (h3 : ¬ (k = 3 ∧ c = 4)) : hE I m h k j c = I k j c := by
  unfold hE
  split
  · rw [upI_at, if_neg (by omega), upI_at, if_neg (by omega)]
  · rw [upI_at, if_neg (by omega)]
theorem XI.rT {z : wZ} {I : wI} {P : wP} (X : XI z I P) {m : Nat} {now : Int32} : XI z (rT I m now) P := X.of (rT_off (by omega)) (rT_off (by omega)) (fun _ => rT_off (by omega)) (fun _ => rT_off (by omega)) (fun _ _ _ => rfl) (fun i p q hi hp h => X.h9 hi hp h)
theorem XI.hE {z : wZ} {I : wI} {P : wP} (X : XI z I P) {m h : Nat} : XI z (hE I m h) P := X.of (hE_off (by omega) (by omega)) (hE_off (by omega) (by omega)) (fun _ => hE_off (by omega) (by omega)) (fun _ => hE_off (by omega) (by omega)) (fun _ _ _ => rfl) (fun i p q hi hp h => X.h9 hi hp h)
theorem XI.eh {z : wZ} {P : wP} {s : wI × Int32} (X : XI z s.1 P) {h : Nat} : XI z (ehS P h s).1 P := by
  unfold ehS
  split
  · exact X.hE
  · exact X
theorem XI.da {z : wZ} {s : wI × wP × Int32} (X : XI z s.1 s.2.1) {m h : Nat} (hh : wAl z 3 h) : XI z (daS m h s).1 (daS m h s).2.1 := by
  unfold daS
  split
  · split
    · exact XI.upI (X.lvR hh) _ (by omega) (by omega) (by omega)
    · exact XI.upI X _ (by omega) (by omega) (by omega)
  · exact X
theorem XI.sA {z : wZ} {I : wI} {P : wP} (X : XI z I P) {h : Nat} {r x f : Int32} : XI z (sA I h r x f) P := XI.upI (XI.upI (XI.upI (XI.upI (XI.upI X _ (by omega) (by omega) (by omega)) _ (by omega) (by omega) (by omega)) _ (by omega) (by omega) (by omega)) _ (by omega) (by omega) (by omega)) _ (by omega) (by omega) (by omega)
theorem sA_off {I : wI} {h : Nat} {r x f : Int32} {k j c : Nat} (hk : k ≠ 3 ∨ c < 5) : sA I h r x f k j c = I k j c := by
  unfold sA
  rw [upI_at, if_neg (by omega), upI_at, if_neg (by omega), upI_at, if_neg (by omega), upI_at, if_neg (by omega), upI_at, if_neg (by omega)]
set_option maxRecDepth 20000 in
theorem l_X3_runTerms {K : wK} {z : wZ} {O : wO} {post : Option Value → wI → wP → Prop} {P : wP} (C : Cx K cX3_runTerms RX3 3 (none) { frames := 2, cells := 0, slots := 0, locals := 41 } z) (hR : Rx K z O post) : ∀ (n m : Nat) (x1 : Int32) (I : wI), XI z I P → x1 = nI m → m + n = z.1 → post none (rtL (I 0 0 6) n m I) P → G K z I P O 0 0 2 [(0, .ref ((Kg K).2.2 0 0)), (1, .int x1)] [] := by
  intro n
  induction n with
  | zero =>
    intro m x1 I X ex1 hk hpost
    refine g_iload_n (pc' := 3) C dX3_runTerms_2 rfl rfl ?_
    refine g_aload_n (pc' := 4) C dX3_runTerms_3 rfl rfl ?_
    refine f_X3_31 (pc' := 7) C dX3_runTerms_4 (by first | assumption | exact rfl | exact al13 rfl | exact Nat.le_of_ble_eq_true rfl) rfl ?_
    refine g_icmp_ge (tgt := 34) (pc' := 10) C dX3_runTerms_7 (by decide) rfl (fun _ => ?_) (fun q => absurd (by rw [ex1, X.2.2.1, show m = z.1 by omega]; exact Int32.le_refl _) q)
    exact g_vret C hR dX3_runTerms_34 hpost
  | succ n ih =>
    intro m x1 I X ex1 hk hpost
    have hmz : m < z.1 := by omega
    obtain ⟨y1, hy1⟩ : ∃ y, y = x1 := ⟨_, rfl⟩
    refine g_iload_n (pc' := 3) C dX3_runTerms_2 rfl rfl ?_
    refine g_aload_n (pc' := 4) C dX3_runTerms_3 rfl rfl ?_
    refine f_X3_31 (pc' := 7) C dX3_runTerms_4 (by first | assumption | exact rfl | exact al13 rfl | exact Nat.le_of_ble_eq_true rfl) rfl ?_
    refine g_icmp_ge (tgt := 34) (pc' := 10) C dX3_runTerms_7 (by decide) rfl (fun c1 => absurd c1 (by rw [ex1, X.2.2.1]; exact nI_ge hmz (by have := X.1; omega))) (fun c1 => ?_)
    refine g_aload_n (pc' := 11) C dX3_runTerms_10 rfl rfl ?_
    refine g_iload_n (pc' := 12) C dX3_runTerms_11 rfl rfl ?_
    refine k_X3_95 (pc' := 15) C (m_X3_matterAtS X ex1 hmz) dX3_runTerms_12 (by first | assumption | exact rfl | exact al13 rfl | exact Nat.le_of_ble_eq_true rfl) ⟨⟨Nat.le_of_ble_eq_true rfl, Nat.le_of_ble_eq_true rfl⟩, rfl, rfl⟩ (Nat.le_of_ble_eq_true rfl) ⟨Nat.zero_le _, Nat.zero_le _⟩ rfl ?_
    refine g_astore_n (pc' := 16) C dX3_runTerms_15 rfl rfl ?_
    refine g_aload_n (pc' := 17) C dX3_runTerms_16 rfl rfl ?_
    refine g_ifnull (pc' := 20) C dX3_runTerms_17 rfl ?_
    refine g_aload_n (pc' := 21) C dX3_runTerms_20 rfl rfl ?_
    refine g_aload_n (pc' := 22) C dX3_runTerms_21 rfl rfl ?_
    refine f_X3_38 (pc' := 25) C dX3_runTerms_22 (by first | assumption | exact rfl | exact al13 rfl | exact Nat.le_of_ble_eq_true rfl) rfl ?_
    refine k_X3_281 (pc' := 28) C (m_X2_runTerm hmz) dX3_runTerms_25 (by first | assumption | exact rfl | exact al13 rfl | exact Nat.le_of_ble_eq_true rfl) ⟨⟨Nat.le_of_ble_eq_true rfl, Nat.le_of_ble_eq_true rfl⟩, rfl, rfl⟩ (Nat.le_of_ble_eq_true rfl) ⟨Nat.zero_le _, Nat.zero_le _⟩ rfl ?_
    refine g_iinc (pc' := 31) C dX3_runTerms_28 rfl (ii1 _) rfl rfl ?_
    refine g_goto (tgt := 2) C dX3_runTerms_31 (by decide) ?_
    refine G_pick [0, 1] rfl (ih (m + 1) _ _ X.rT (by rw [ex1]; exact nI_1 m) (by omega) ?_)
    simpa [rtL, rT_off] using hpost
set_option maxRecDepth 20000 in
theorem m_X3_runTerms {l : Launch} {g : wG} {z : wZ} {I : wI} {P : wP} {O : wO} (X : XI z I P) : RT l yX3_runTerms cX3_runTerms 3 (none) { frames := 2, cells := 0, slots := 0, locals := 41 } g z [.ref (g.2.2 0 0)] I P O (dp (none) (rtL (I 0 0 6) z.1 0 I) (P)) := by
  refine RT.of (own := RX3) rfl (by decide +kernel) (Nat.le_of_ble_eq_true rfl) rfl (fun K C hl hg hR => ?_)
  subst hl
  subst hg
  refine g_iconst (v := 0) (pc' := 1) C dX3_runTerms_0 (by decide) rfl ?_
  refine g_istore_n (pc' := 2) C dX3_runTerms_1 rfl rfl ?_
  exact l_X3_runTerms C hR z.1 0 0 I X nI_0.symm (by omega) ⟨rfl, rfl, rfl⟩
set_option maxRecDepth 20000 in
theorem l_X3_balances {K : wK} {z : wZ} {O : wO} {post : Option Value → wI → wP → Prop} {I : wI} {P : wP} (C : Cx K cX3_balances RX3 4 ((some .int)) { frames := 1, cells := 0, slots := 0, locals := 21 } z) (hR : Rx K z O post) (X : XI z I P) : ∀ (n m : Nat) (x1 x2 : Int32), x2 = nI m → m + n = z.1 → post (some (.int (blL I n m x1))) I P → G K z I P O 0 0 4 [(0, .ref ((Kg K).2.2 0 0)), (1, .int x1), (2, .int x2)] [] := by
  intro n
  induction n with
  | zero =>
    intro m x1 x2 ex2 hk hpost
    refine g_iload_n (pc' := 5) C dX3_balances_4 rfl rfl ?_
    refine g_aload_n (pc' := 6) C dX3_balances_5 rfl rfl ?_
    refine f_X3_31 (pc' := 9) C dX3_balances_6 (by first | assumption | exact rfl | exact al13 rfl | exact Nat.le_of_ble_eq_true rfl) rfl ?_
    refine g_icmp_ge (tgt := 35) (pc' := 12) C dX3_balances_9 (by decide) rfl (fun _ => ?_) (fun q => absurd (by rw [ex2, X.2.2.1, show m = z.1 by omega]; exact Int32.le_refl _) q)
    refine g_iload_n (pc' := 36) C dX3_balances_35 rfl rfl ?_
    exact g_iret C hR dX3_balances_36 hpost
  | succ n ih =>
    intro m x1 x2 ex2 hk hpost
    have hmz : m < z.1 := by omega
    refine g_iload_n (pc' := 5) C dX3_balances_4 rfl rfl ?_
    refine g_aload_n (pc' := 6) C dX3_balances_5 rfl rfl ?_
    refine f_X3_31 (pc' := 9) C dX3_balances_6 (by first | assumption | exact rfl | exact al13 rfl | exact Nat.le_of_ble_eq_true rfl) rfl ?_
    refine g_icmp_ge (tgt := 35) (pc' := 12) C dX3_balances_9 (by decide) rfl (fun c1 => absurd c1 (by rw [ex2, X.2.2.1]; exact nI_ge hmz (by have := X.1; omega))) (fun c1 => ?_)
    have hm2 : wAl z 2 m := hmz
    refine g_aload_n (pc' := 13) C dX3_balances_12 rfl rfl ?_
    refine g_iload_n (pc' := 14) C dX3_balances_13 rfl rfl ?_
    refine k_X3_95 (pc' := 17) C (m_X3_matterAtS X ex2 hmz) dX3_balances_14 (by first | assumption | exact rfl | exact al13 rfl | exact Nat.le_of_ble_eq_true rfl) ⟨⟨Nat.le_of_ble_eq_true rfl, Nat.le_of_ble_eq_true rfl⟩, rfl, rfl⟩ (Nat.le_of_ble_eq_true rfl) ⟨Nat.zero_le _, Nat.zero_le _⟩ rfl ?_
    refine g_astore_n (pc' := 18) C dX3_balances_17 rfl rfl ?_
    refine g_aload_n (pc' := 19) C dX3_balances_18 rfl rfl ?_
    refine g_ifnull (pc' := 22) C dX3_balances_19 rfl ?_
    refine g_iload_n (pc' := 23) C dX3_balances_22 rfl rfl ?_
    refine g_aload_n (pc' := 24) C dX3_balances_23 rfl rfl ?_
    refine f_X3_85 (pc' := 27) C dX3_balances_24 (by first | assumption | exact rfl | exact al13 rfl | exact Nat.le_of_ble_eq_true rfl) rfl ?_
    refine g_iadd (pc' := 28) C dX3_balances_27 rfl ?_
    refine g_istore_n (pc' := 29) C dX3_balances_28 rfl rfl ?_
    refine g_iinc (pc' := 32) C dX3_balances_29 rfl (ii1 _) rfl rfl ?_
    refine g_goto (tgt := 4) C dX3_balances_32 (by decide) ?_
    refine G_pick [0, 1, 2] rfl (ih (m + 1) _ _ (by rw [ex2]; exact nI_1 m) (by omega) ?_)
    simpa [blL] using hpost
set_option maxRecDepth 20000 in
theorem m_X3_balances {l : Launch} {g : wG} {z : wZ} {I : wI} {P : wP} {O : wO} (X : XI z I P) : RT l yX3_balances cX3_balances 4 ((some .int)) { frames := 1, cells := 0, slots := 0, locals := 21 } g z [.ref (g.2.2 0 0)] I P O (dp (some (.int (blL I z.1 0 0))) (I) (P)) := by
  refine RT.of (own := RX3) rfl (by decide +kernel) (Nat.le_of_ble_eq_true rfl) rfl (fun K C hl hg hR => ?_)
  subst hl
  subst hg
  refine g_iconst (v := 0) (pc' := 1) C dX3_balances_0 (by decide) rfl ?_
  refine g_istore_n (pc' := 2) C dX3_balances_1 rfl rfl ?_
  refine g_iconst (v := 0) (pc' := 3) C dX3_balances_2 (by decide) rfl ?_
  refine g_istore_n (pc' := 4) C dX3_balances_3 rfl rfl ?_
  exact l_X3_balances C hR X z.1 0 0 0 nI_0.symm (by omega) ⟨rfl, rfl, rfl⟩
set_option maxRecDepth 20000 in
theorem l_X3_endHearings {K : wK} {z : wZ} {O : wO} {post : Option Value → wI → wP → Prop} {P : wP} (C : Cx K cX3_endHearings RX3 4 ((some .int)) { frames := 2, cells := 0, slots := 0, locals := 40 } z) (hR : Rx K z O post) : ∀ (n h : Nat) (x1 x2 : Int32) (I : wI), XI z I P → x2 = nI h → h + n = z.2 → post (some (.int (ehL P n h (I, x1)).2)) (ehL P n h (I, x1)).1 P → G K z I P O 0 0 4 [(0, .ref ((Kg K).2.2 0 0)), (1, .int x1), (2, .int x2)] [] := by
  intro n
  induction n with
  | zero =>
    intro h x1 x2 I X ex2 hk hpost
    refine g_iload_n (pc' := 5) C dX3_endHearings_4 rfl rfl ?_
    refine g_aload_n (pc' := 6) C dX3_endHearings_5 rfl rfl ?_
    refine f_X3_35 (pc' := 9) C dX3_endHearings_6 (by first | assumption | exact rfl | exact al13 rfl | exact Nat.le_of_ble_eq_true rfl) rfl ?_
    refine g_icmp_ge (tgt := 66) (pc' := 12) C dX3_endHearings_9 (by decide) rfl (fun _ => ?_) (fun q => absurd (by rw [ex2, X.2.2.2.1, show h = z.2 by omega]; exact Int32.le_refl _) q)
    refine g_iload_n (pc' := 67) C dX3_endHearings_66 rfl rfl ?_
    exact g_iret C hR dX3_endHearings_67 hpost
  | succ n ih =>
    intro h x1 x2 I X ex2 hk hpost
    have hhz : h < z.2 := by omega
    refine g_iload_n (pc' := 5) C dX3_endHearings_4 rfl rfl ?_
    refine g_aload_n (pc' := 6) C dX3_endHearings_5 rfl rfl ?_
    refine f_X3_35 (pc' := 9) C dX3_endHearings_6 (by first | assumption | exact rfl | exact al13 rfl | exact Nat.le_of_ble_eq_true rfl) rfl ?_
    refine g_icmp_ge (tgt := 66) (pc' := 12) C dX3_endHearings_9 (by decide) rfl (fun c1 => absurd c1 (by rw [ex2, X.2.2.2.1]; exact nI_ge hhz (by have := X.2.1; omega))) (fun c1 => ?_)
    have hh : wAl z 3 h := hhz
    refine g_aload_n (pc' := 13) C dX3_endHearings_12 rfl rfl ?_
    refine g_iload_n (pc' := 14) C dX3_endHearings_13 rfl rfl ?_
    refine k_X3_149 (pc' := 17) C (m_X3_hearingAtS X ex2 hhz) dX3_endHearings_14 (by first | assumption | exact rfl | exact al13 rfl | exact Nat.le_of_ble_eq_true rfl) ⟨⟨Nat.le_of_ble_eq_true rfl, Nat.le_of_ble_eq_true rfl⟩, rfl, rfl⟩ (Nat.le_of_ble_eq_true rfl) ⟨Nat.zero_le _, Nat.zero_le _⟩ rfl ?_
    refine g_astore_n (pc' := 18) C dX3_endHearings_17 rfl rfl ?_
    refine g_aload_n (pc' := 19) C dX3_endHearings_18 rfl rfl ?_
    refine g_ifnull (pc' := 22) C dX3_endHearings_19 rfl ?_
    refine g_aload_n (pc' := 23) C dX3_endHearings_22 rfl rfl ?_
    refine f_X3_178 (pc' := 26) C dX3_endHearings_23 (by first | assumption | exact rfl | exact al13 rfl | exact Nat.le_of_ble_eq_true rfl) rfl ?_
    refine g_if_ne (tgt := 60) (pc' := 29) C dX3_endHearings_26 (by decide) rfl (fun c2 => ?_) (fun c2 => ?_)
    ·
      refine g_iinc (pc' := 63) C dX3_endHearings_60 rfl (ii1 _) rfl rfl ?_
      refine g_goto (tgt := 4) C dX3_endHearings_63 (by decide) ?_
      refine G_pick [0, 1, 2] rfl (ih (h + 1) _ _ _ (by first | exact X | exact X.hE) (by rw [ex2]; exact nI_1 h) (by omega) ?_)
      simpa [ehL, ehS, c1, c2] using hpost
    ·
      refine g_aload_n (pc' := 30) C dX3_endHearings_29 rfl rfl ?_
      refine f_X3_189 (pc' := 33) C dX3_endHearings_30 (by first | assumption | exact rfl | exact al13 rfl | exact Nat.le_of_ble_eq_true rfl) rfl ?_
      refine g_aload_n (pc' := 34) C dX3_endHearings_33 rfl rfl ?_
      refine f_X3_167 (pc' := 37) C dX3_endHearings_34 (by first | assumption | exact rfl | exact al13 rfl | exact Nat.le_of_ble_eq_true rfl) rfl ?_
      refine g_iadd (pc' := 38) C dX3_endHearings_37 rfl ?_
      refine g_aload_n (pc' := 39) C dX3_endHearings_38 rfl rfl ?_
      refine f_X3_38 (pc' := 42) C dX3_endHearings_39 (by first | assumption | exact rfl | exact al13 rfl | exact Nat.le_of_ble_eq_true rfl) rfl ?_
      refine g_icmp_gt (tgt := 60) (pc' := 45) C dX3_endHearings_42 (by decide) rfl (fun c3 => ?_) (fun c3 => ?_)
      ·
        refine g_iinc (pc' := 63) C dX3_endHearings_60 rfl (ii1 _) rfl rfl ?_
        refine g_goto (tgt := 4) C dX3_endHearings_63 (by decide) ?_
        refine G_pick [0, 1, 2] rfl (ih (h + 1) _ _ _ (by first | exact X | exact X.hE) (by rw [ex2]; exact nI_1 h) (by omega) ?_)
        simpa [ehL, ehS, c1, c2, c3] using hpost
      ·
        refine g_aload_n (pc' := 46) C dX3_endHearings_45 rfl rfl ?_
        refine k_X3_279 (pc' := 49) C (m_X0_end hh (X.hm hh) (X.hm2 hh)) dX3_endHearings_46 (by first | assumption | exact rfl | exact al13 rfl | exact Nat.le_of_ble_eq_true rfl) ⟨⟨Nat.le_of_ble_eq_true rfl, Nat.le_of_ble_eq_true rfl⟩, rfl, rfl⟩ (Nat.le_of_ble_eq_true rfl) ⟨Nat.zero_le _, Nat.zero_le _⟩ rfl ?_
        refine g_aload_n (pc' := 50) C dX3_endHearings_49 rfl rfl ?_
        refine f_X3_178 (pc' := 53) C dX3_endHearings_50 (by first | assumption | exact rfl | exact al13 rfl | exact Nat.le_of_ble_eq_true rfl) rfl ?_
        refine g_iconst (v := 1) (pc' := 54) C dX3_endHearings_53 (by decide) rfl ?_
        refine g_icmp_ne (tgt := 60) (pc' := 57) C dX3_endHearings_54 (by decide) rfl (fun c4 => ?_) (fun c4 => ?_)
        ·
          refine g_iinc (pc' := 63) C dX3_endHearings_60 rfl (ii1 _) rfl rfl ?_
          refine g_goto (tgt := 4) C dX3_endHearings_63 (by decide) ?_
          refine G_pick [0, 1, 2] rfl (ih (h + 1) _ _ _ (by first | exact X | exact X.hE) (by rw [ex2]; exact nI_1 h) (by omega) ?_)
          simpa [ehL, ehS, c1, c2, c3, c4] using hpost
        ·
          refine g_iinc (pc' := 60) C dX3_endHearings_57 rfl (ii1 _) rfl rfl ?_
          refine g_iinc (pc' := 63) C dX3_endHearings_60 rfl (ii1 _) rfl rfl ?_
          refine g_goto (tgt := 4) C dX3_endHearings_63 (by decide) ?_
          refine G_pick [0, 1, 2] rfl (ih (h + 1) _ _ _ (by first | exact X | exact X.hE) (by rw [ex2]; exact nI_1 h) (by omega) ?_)
          simpa [ehL, ehS, c1, c2, c3, c4] using hpost
set_option maxRecDepth 20000 in
theorem m_X3_endHearings {l : Launch} {g : wG} {z : wZ} {I : wI} {P : wP} {O : wO} (X : XI z I P) : RT l yX3_endHearings cX3_endHearings 4 ((some .int)) { frames := 2, cells := 0, slots := 0, locals := 40 } g z [.ref (g.2.2 0 0)] I P O (dp (some (.int (ehL P z.2 0 (I, 0)).2)) ((ehL P z.2 0 (I, 0)).1) (P)) := by
  refine RT.of (own := RX3) rfl (by decide +kernel) (Nat.le_of_ble_eq_true rfl) rfl (fun K C hl hg hR => ?_)
  subst hl
  subst hg
  refine g_iconst (v := 0) (pc' := 1) C dX3_endHearings_0 (by decide) rfl ?_
  refine g_istore_n (pc' := 2) C dX3_endHearings_1 rfl rfl ?_
  refine g_iconst (v := 0) (pc' := 3) C dX3_endHearings_2 (by decide) rfl ?_
  refine g_istore_n (pc' := 4) C dX3_endHearings_3 rfl rfl ?_
  exact l_X3_endHearings C hR z.2 0 0 0 I X nI_0.symm (by omega) ⟨rfl, rfl, rfl⟩
set_option maxRecDepth 20000 in
theorem l_X3_paidHoursOf {K : wK} {z : wZ} {O : wO} {post : Option Value → wI → wP → Prop} {I : wI} {P : wP} {m : Nat} (C : Cx K cX3_paidHoursOf RX3 5 ((some .int)) { frames := 1, cells := 0, slots := 0, locals := 24 } z) (hR : Rx K z O post) (X : XI z I P) (hm2 : wAl z 2 m) : ∀ (n i : Nat) (x2 x3 : Int32), x3 = nI i → i + n = 4 → post (some (.int (phL I P m n i x2))) I P → G K z I P O 0 0 4 [(0, .ref ((Kg K).2.2 0 0)), (1, .ref ((Kg K).2.2 2 m)), (2, .int x2), (3, .int x3)] [] := by
  intro n
  induction n with
  | zero =>
    intro i x2 x3 ex3 hk hpost
    refine g_iload_n (pc' := 5) C dX3_paidHoursOf_4 rfl rfl ?_
    refine g_aload_n (pc' := 6) C dX3_paidHoursOf_5 rfl rfl ?_
    refine f_X3_11 (pc' := 9) C dX3_paidHoursOf_6 (by first | assumption | exact rfl | exact al13 rfl | exact Nat.le_of_ble_eq_true rfl) rfl ?_
    refine g_alen (pc' := 10) (v := 4) (t0 := 4) C dX3_paidHoursOf_9 (by first | assumption | exact rfl | exact al13 rfl | exact Nat.le_of_ble_eq_true rfl) rfl rfl rfl rfl ?_
    refine g_icmp_ge (tgt := 44) (pc' := 13) C dX3_paidHoursOf_10 (by decide) rfl (fun _ => ?_) (fun q => absurd (by rw [ex3, show i = 4 by omega]; decide) q)
    refine g_iload_n (pc' := 45) C dX3_paidHoursOf_44 rfl rfl ?_
    exact g_iret C hR dX3_paidHoursOf_45 hpost
  | succ n ih =>
    intro i x2 x3 ex3 hk hpost
    have hi : wAl z 1 i := (by omega : i < 4)
    refine g_iload_n (pc' := 5) C dX3_paidHoursOf_4 rfl rfl ?_
    refine g_aload_n (pc' := 6) C dX3_paidHoursOf_5 rfl rfl ?_
    refine f_X3_11 (pc' := 9) C dX3_paidHoursOf_6 (by first | assumption | exact rfl | exact al13 rfl | exact Nat.le_of_ble_eq_true rfl) rfl ?_
    refine g_alen (pc' := 10) (v := 4) (t0 := 4) C dX3_paidHoursOf_9 (by first | assumption | exact rfl | exact al13 rfl | exact Nat.le_of_ble_eq_true rfl) rfl rfl rfl rfl ?_
    refine g_icmp_ge (tgt := 44) (pc' := 13) C dX3_paidHoursOf_10 (by decide) rfl (fun c1 => absurd c1 (by rw [ex3]; exact nI_ge (a := i) (b := 4) (by omega) (by decide))) (fun c1 => ?_)
    refine g_aload_n (pc' := 14) C dX3_paidHoursOf_13 rfl rfl ?_
    refine g_iload_n (pc' := 15) C dX3_paidHoursOf_14 rfl rfl ?_
    refine k_X3_42 (pc' := 18) C (m_X3_interpreterAtS ex3 hi (X.2.2.2.2.2.2.1 i hi)) dX3_paidHoursOf_15 (by first | assumption | exact rfl | exact al13 rfl | exact Nat.le_of_ble_eq_true rfl) ⟨⟨Nat.le_of_ble_eq_true rfl, Nat.le_of_ble_eq_true rfl⟩, rfl, rfl⟩ (Nat.le_of_ble_eq_true rfl) ⟨Nat.zero_le _, Nat.zero_le _⟩ rfl ?_
    refine g_astore (pc' := 20) C dX3_paidHoursOf_18 rfl rfl ?_
    refine g_aload (pc' := 22) C dX3_paidHoursOf_20 rfl rfl ?_
    refine g_ifnull (pc' := 25) C dX3_paidHoursOf_22 rfl ?_
    refine g_iload_n (pc' := 26) C dX3_paidHoursOf_25 rfl rfl ?_
    refine g_aload (pc' := 28) C dX3_paidHoursOf_26 rfl rfl ?_
    refine g_aload_n (pc' := 29) C dX3_paidHoursOf_28 rfl rfl ?_
    refine g_aload_n (pc' := 30) C dX3_paidHoursOf_29 rfl rfl ?_
    refine f_X3_38 (pc' := 33) C dX3_paidHoursOf_30 (by first | assumption | exact rfl | exact al13 rfl | exact Nat.le_of_ble_eq_true rfl) rfl ?_
    refine k_X3_284 (pc' := 36) C (m_X1_hoursPaidBy hi hm2 (fun p q hp hq => X.h9 hi hp hq)) dX3_paidHoursOf_33 (by first | assumption | exact rfl | exact al13 rfl | exact Nat.le_of_ble_eq_true rfl) ⟨⟨Nat.le_of_ble_eq_true rfl, Nat.le_of_ble_eq_true rfl⟩, rfl, rfl⟩ (Nat.le_of_ble_eq_true rfl) ⟨Nat.zero_le _, Nat.zero_le _⟩ rfl ?_
    refine g_iadd (pc' := 37) C dX3_paidHoursOf_36 rfl ?_
    refine g_istore_n (pc' := 38) C dX3_paidHoursOf_37 rfl rfl ?_
    refine g_iinc (pc' := 41) C dX3_paidHoursOf_38 rfl (ii1 _) rfl rfl ?_
    refine g_goto (tgt := 4) C dX3_paidHoursOf_41 (by decide) ?_
    refine G_pick [0, 1, 2, 3] rfl (ih (i + 1) _ _ (by rw [ex3]; exact nI_1 i) (by omega) ?_)
    exact hpost
set_option maxRecDepth 20000 in
theorem m_X3_paidHoursOf {l : Launch} {g : wG} {z : wZ} {I : wI} {P : wP} {O : wO} {m : Nat} (X : XI z I P) (hm2 : wAl z 2 m) : RT l yX3_paidHoursOf cX3_paidHoursOf 5 ((some .int)) { frames := 1, cells := 0, slots := 0, locals := 24 } g z [.ref (g.2.2 0 0), .ref (g.2.2 2 m)] I P O (dp (some (.int (phO I P m))) (I) (P)) := by
  refine RT.of (own := RX3) rfl (by decide +kernel) (Nat.le_of_ble_eq_true rfl) rfl (fun K C hl hg hR => ?_)
  subst hl
  subst hg
  refine g_iconst (v := 0) (pc' := 1) C dX3_paidHoursOf_0 (by decide) rfl ?_
  refine g_istore_n (pc' := 2) C dX3_paidHoursOf_1 rfl rfl ?_
  refine g_iconst (v := 0) (pc' := 3) C dX3_paidHoursOf_2 (by decide) rfl ?_
  refine g_istore_n (pc' := 4) C dX3_paidHoursOf_3 rfl rfl ?_
  exact l_X3_paidHoursOf C hR X hm2 4 0 0 0 nI_0.symm rfl ⟨rfl, rfl, rfl⟩
set_option maxRecDepth 20000 in
theorem l_X3_leave {K : wK} {z : wZ} {O : wO} {post : Option Value → wI → wP → Prop} {h i m hr : Nat} (C : Cx K cX3_leave RX3 4 (none) { frames := 2, cells := 0, slots := 0, locals := 44 } z) (hR : Rx K z O post) (hh : wAl z 3 h) (hi : wAl z 1 i) (hm2 : wAl z 2 m) (hr4 : hr ≤ 4) : ∀ (n k : Nat) (x3 : Int32) (I : wI) (P : wP), XI z I P → P 3 h 1 = some m → I 3 h 2 = nI hr → x3 = nI k → k + n = hr → post none (lvL i m h n k (I, P)).1 (lvL i m h n k (I, P)).2 → G K z I P O 0 0 42 [(0, .ref ((Kg K).2.2 0 0)), (1, .ref ((Kg K).2.2 3 h)), (2, .ref ((Kg K).2.2 1 i)), (3, .int x3)] [] := by
  intro n
  induction n with
  | zero =>
    intro k x3 I P X hm hr ex3 hk hpost
    refine g_aload_n (pc' := 43) C dX3_leave_42 rfl rfl ?_
    refine g_ifnull (pc' := 46) C dX3_leave_43 rfl ?_
    refine g_iload_n (pc' := 47) C dX3_leave_46 rfl rfl ?_
    refine g_aload_n (pc' := 48) C dX3_leave_47 rfl rfl ?_
    refine f_X3_167 (pc' := 51) C dX3_leave_48 (by first | assumption | exact rfl | exact al13 rfl | exact Nat.le_of_ble_eq_true rfl) rfl ?_
    refine g_icmp_ge (tgt := 89) (pc' := 54) C dX3_leave_51 (by decide) rfl (fun _ => ?_) (fun q => absurd (by rw [ex3, hr, show k = _ by omega]; exact Int32.le_refl _) q)
    exact g_vret C hR dX3_leave_89 hpost
  | succ n ih =>
    intro k x3 I P X hm hr ex3 hk hpost
    refine g_aload_n (pc' := 43) C dX3_leave_42 rfl rfl ?_
    refine g_ifnull (pc' := 46) C dX3_leave_43 rfl ?_
    refine g_iload_n (pc' := 47) C dX3_leave_46 rfl rfl ?_
    refine g_aload_n (pc' := 48) C dX3_leave_47 rfl rfl ?_
    refine f_X3_167 (pc' := 51) C dX3_leave_48 (by first | assumption | exact rfl | exact al13 rfl | exact Nat.le_of_ble_eq_true rfl) rfl ?_
    refine g_icmp_ge (tgt := 89) (pc' := 54) C dX3_leave_51 (by decide) rfl (fun c1 => absurd c1 (by rw [ex3, hr]; exact nI_ge (by omega) (by omega))) (fun c1 => ?_)
    refine g_iload_n (pc' := 55) C dX3_leave_54 rfl rfl ?_
    refine g_aload_n (pc' := 56) C dX3_leave_55 rfl rfl ?_
    refine f_X3_268 (pc' := 59) C dX3_leave_56 (by first | assumption | exact rfl | exact al13 rfl | exact Nat.le_of_ble_eq_true rfl) rfl ?_
    refine g_alen (pc' := 60) (v := 4) (t0 := 0) C dX3_leave_59 (by first | assumption | exact rfl | exact al13 rfl | exact Nat.le_of_ble_eq_true rfl) rfl rfl rfl rfl ?_
    refine g_icmp_ge (tgt := 89) (pc' := 63) C dX3_leave_60 (by decide) rfl (fun c2 => absurd c2 (by rw [ex3]; exact nI_ge (a := k) (b := 4) (by omega) (by decide))) (fun c2 => ?_)
    refine g_aload_n (pc' := 64) C dX3_leave_63 rfl rfl ?_
    refine g_aload_n (pc' := 65) C dX3_leave_64 rfl rfl ?_
    refine f_X3_189 (pc' := 68) C dX3_leave_65 (by first | assumption | exact rfl | exact al13 rfl | exact Nat.le_of_ble_eq_true rfl) rfl ?_
    refine g_iload_n (pc' := 69) C dX3_leave_68 rfl rfl ?_
    refine g_iadd (pc' := 70) C dX3_leave_69 rfl ?_
    refine g_aload_n (pc' := 71) C dX3_leave_70 rfl rfl ?_
    refine f_X3_161 (pc' := 74) C hm dX3_leave_71 (by first | assumption | exact rfl | exact al13 rfl | exact Nat.le_of_ble_eq_true rfl) rfl ?_
    refine g_aload_n (pc' := 75) C dX3_leave_74 rfl rfl ?_
    refine f_X3_268 (pc' := 78) C dX3_leave_75 (by first | assumption | exact rfl | exact al13 rfl | exact Nat.le_of_ble_eq_true rfl) rfl ?_
    refine g_iload_n (pc' := 79) C dX3_leave_78 rfl rfl ?_
    refine g_iald (pc' := 80) C (k) ex3 (by omega) dX3_leave_79 (by first | assumption | exact rfl | exact al13 rfl | exact Nat.le_of_ble_eq_true rfl) rfl rfl rfl ?_
    refine k_X3_276 (pc' := 83) C (m_X1_keep hi hm2) dX3_leave_80 (by first | assumption | exact rfl | exact al13 rfl | exact Nat.le_of_ble_eq_true rfl) ⟨⟨Nat.le_of_ble_eq_true rfl, Nat.le_of_ble_eq_true rfl⟩, rfl, rfl⟩ (Nat.le_of_ble_eq_true rfl) ⟨Nat.zero_le _, Nat.zero_le _⟩ rfl ?_
    refine g_iinc (pc' := 86) C dX3_leave_83 rfl (ii1 _) rfl rfl ?_
    refine g_goto (tgt := 42) C dX3_leave_86 (by decide) ?_
    refine G_pick [0, 1, 2, 3] rfl (ih (k + 1) _ _ _ (X.kp hm2) (by unfold kpP; rw [upP_at, if_neg (by omega)]; exact hm) (by unfold kpI; rw [upI_at, if_neg (by omega), upI_at, if_neg (by omega)]; exact hr) (by rw [ex3]; exact nI_1 k) (by omega) ?_)
    rw [ex3]
    exact hpost
set_option maxRecDepth 20000 in
theorem m_X3_leave {l : Launch} {g : wG} {z : wZ} {I : wI} {P : wP} {O : wO} {h : Nat} (X : XI z I P) (hh : wAl z 3 h) : RT l yX3_leave cX3_leave 4 (none) { frames := 2, cells := 0, slots := 0, locals := 44 } g z [.ref (g.2.2 0 0), .ref (g.2.2 3 h)] I P O (dp (none) ((lvR I P h).1) ((lvR I P h).2)) := by
  refine RT.of (own := RX3) rfl (by decide +kernel) (Nat.le_of_ble_eq_true rfl) rfl (fun K C hl hg hR => ?_)
  subst hl
  subst hg
  have hm := X.hm hh
  have hm2 := X.hm2 hh
  refine g_aload_n (pc' := 1) C dX3_leave_0 rfl rfl ?_
  refine f_X3_189 (pc' := 4) C dX3_leave_1 (by first | assumption | exact rfl | exact al13 rfl | exact Nat.le_of_ble_eq_true rfl) rfl ?_
  refine g_aload_n (pc' := 5) C dX3_leave_4 rfl rfl ?_
  refine f_X3_38 (pc' := 8) C dX3_leave_5 (by first | assumption | exact rfl | exact al13 rfl | exact Nat.le_of_ble_eq_true rfl) rfl ?_
  refine g_isub (pc' := 9) C dX3_leave_8 rfl ?_
  refine g_bipush (v := 8) (pc' := 11) C dX3_leave_9 (by decide) rfl ?_
  refine g_icmp_lt (tgt := 31) (pc' := 14) C dX3_leave_11 (by decide) rfl (fun c1 => ?_) (fun c1 => ?_)
  ·
    refine g_aload_n (pc' := 32) C dX3_leave_31 rfl rfl ?_
    refine g_aload_n (pc' := 33) C dX3_leave_32 rfl rfl ?_
    refine f_X3_242 (pc' := 36) C dX3_leave_33 (by first | assumption | exact rfl | exact al13 rfl | exact Nat.le_of_ble_eq_true rfl) rfl ?_
    rcases in_of (I 3 h 6) 4 (by decide) with ⟨j, hj4, hj⟩ | hx
    · have hn : ¬ (I 3 h 6 < 0 ∨ 4 ≤ I 3 h 6) := by rw [hj]; exact fun e => e.elim (nI_pos (by omega)) (nI_ge (a := j) (b := 4) hj4 (by decide))
      have hcl : (I 3 h 6).toNatClampNeg = j := by rw [hj]; exact nI_clamp (by omega)
      have hi : wAl z 1 j := hj4
      refine k_X3_42 (pc' := 39) C (m_X3_interpreterAtS hj hj4 (X.2.2.2.2.2.2.1 j hj4)) dX3_leave_36 (by first | assumption | exact rfl | exact al13 rfl | exact Nat.le_of_ble_eq_true rfl) ⟨⟨Nat.le_of_ble_eq_true rfl, Nat.le_of_ble_eq_true rfl⟩, rfl, rfl⟩ (Nat.le_of_ble_eq_true rfl) ⟨Nat.zero_le _, Nat.zero_le _⟩ rfl ?_
      refine g_astore_n (pc' := 40) C dX3_leave_39 rfl rfl ?_
      refine g_iconst (v := 0) (pc' := 41) C dX3_leave_40 (by decide) rfl ?_
      refine g_istore_n (pc' := 42) C dX3_leave_41 rfl rfl ?_
      refine l_X3_leave C hR hh hi hm2 (X.hr4 hh) (hrN I h) 0 0 I P X hm (X.hr hh) nI_0.symm (by omega) ⟨rfl, ?_, ?_⟩ <;> simp [lvR, c1, hn, hcl]
    · have hx : I 3 h 6 < 0 ∨ 4 ≤ I 3 h 6 := hx
      refine k_X3_42 (pc' := 39) C (m_X3_interpreterAtN hx) dX3_leave_36 (by first | assumption | exact rfl | exact al13 rfl | exact Nat.le_of_ble_eq_true rfl) ⟨⟨Nat.le_of_ble_eq_true rfl, Nat.le_of_ble_eq_true rfl⟩, rfl, rfl⟩ (Nat.le_of_ble_eq_true rfl) ⟨Nat.zero_le _, Nat.zero_le _⟩ rfl ?_
      refine g_astore_nN (pc' := 40) C dX3_leave_39 rfl rfl ?_
      refine g_iconst (v := 0) (pc' := 41) C dX3_leave_40 (by decide) rfl ?_
      refine g_istore_n (pc' := 42) C dX3_leave_41 rfl rfl ?_
      refine g_aload_nN (pc' := 43) C dX3_leave_42 rfl rfl ?_
      refine g_ifnullN (tgt := 89) C dX3_leave_43 (by decide) ?_
      exact g_vret C hR dX3_leave_89 ⟨rfl, by simp [lvR, c1, hx], by simp [lvR, c1, hx]⟩
  ·
    refine g_aload_n (pc' := 15) C dX3_leave_14 rfl rfl ?_
    refine f_X3_161 (pc' := 18) C hm dX3_leave_15 (by first | assumption | exact rfl | exact al13 rfl | exact Nat.le_of_ble_eq_true rfl) rfl ?_
    refine g_dup (pc' := 19) C dX3_leave_18 rfl rfl ?_
    refine f_X3_85 (pc' := 22) C dX3_leave_19 (by first | assumption | exact rfl | exact al13 rfl | exact Nat.le_of_ble_eq_true rfl) rfl ?_
    refine g_aload_n (pc' := 23) C dX3_leave_22 rfl rfl ?_
    refine k_X3_248 (pc' := 26) C (m_X0_charged hh) dX3_leave_23 (by first | assumption | exact rfl | exact al13 rfl | exact Nat.le_of_ble_eq_true rfl) ⟨⟨Nat.le_of_ble_eq_true rfl, Nat.le_of_ble_eq_true rfl⟩, rfl, rfl⟩ (Nat.le_of_ble_eq_true rfl) ⟨Nat.zero_le _, Nat.zero_le _⟩ rfl ?_
    refine g_iadd (pc' := 27) C dX3_leave_26 rfl ?_
    refine p_X3_85 (pc' := 30) C dX3_leave_27 (by first | assumption | exact rfl | exact al13 rfl | exact Nat.le_of_ble_eq_true rfl) rfl ?_
    exact g_vret C hR dX3_leave_30 ⟨rfl, by simp [lvR, c1], by simp [lvR, c1]⟩
end WMove
end
section
section WPut
set_option maxRecDepth 20000 in
theorem l_X3_putS {K : wK} {z : wZ} {O : wO} {post : Option Value → wI → wP → Prop} {h i m hr : Nat} {r x f now : Int32} (C : Cx K cX3_put RX3 7 (none) { frames := 3, cells := 0, slots := 0, locals := 69 } z) (hR : Rx K z O post) (hh : wAl z 3 h) (hi : wAl z 1 i) (hm2 : wAl z 2 m) (hr4 : hr ≤ 4) : ∀ (n k : Nat) (x6 : Int32) (I : wI) (P : wP), XI z I P → P 3 h 1 = some m → I 3 h 2 = nI hr → I 0 0 6 = now → x6 = nI k → k + n = hr → post none (putB (ptL i m h f now n k (I, P)).1 m h) (ptL i m h f now n k (I, P)).2 → G K z I P O 0 0 18 [(0, .ref ((Kg K).2.2 0 0)), (1, .ref ((Kg K).2.2 3 h)), (2, .int r), (3, .int x), (4, .int f), (5, .ref ((Kg K).2.2 1 i)), (6, .int x6)] [] := by
  intro n
  induction n with
  | zero =>
    intro k x6 I P X hm hr hnow ex6 hk hpost
    subst ex6
    refine g_iload (pc' := 20) C dX3_put_18 rfl rfl ?_
    refine g_aload_n (pc' := 21) C dX3_put_20 rfl rfl ?_
    refine f_X3_167 (pc' := 24) C dX3_put_21 (by first | assumption | exact rfl | exact al13 rfl | exact Nat.le_of_ble_eq_true rfl) rfl ?_
    refine g_icmp_ge (tgt := 77) (pc' := 27) C dX3_put_24 (by decide) rfl (fun c1 => ?_) (fun c1 => absurd (by rw [hr, show k = _ by omega]; exact Int32.le_refl _) c1)
    refine g_aload_n (pc' := 78) C dX3_put_77 rfl rfl ?_
    refine f_X3_161 (pc' := 81) C hm dX3_put_78 (by first | assumption | exact rfl | exact al13 rfl | exact Nat.le_of_ble_eq_true rfl) rfl ?_
    refine g_dup (pc' := 82) C dX3_put_81 rfl rfl ?_
    refine f_X3_85 (pc' := 85) C dX3_put_82 (by first | assumption | exact rfl | exact al13 rfl | exact Nat.le_of_ble_eq_true rfl) rfl ?_
    refine g_aload_n (pc' := 86) C dX3_put_85 rfl rfl ?_
    refine k_X3_248 (pc' := 89) C (m_X0_charged hh) dX3_put_86 (by first | assumption | exact rfl | exact al13 rfl | exact Nat.le_of_ble_eq_true rfl) ⟨⟨Nat.le_of_ble_eq_true rfl, Nat.le_of_ble_eq_true rfl⟩, rfl, rfl⟩ (Nat.le_of_ble_eq_true rfl) ⟨Nat.zero_le _, Nat.zero_le _⟩ rfl ?_
    refine g_isub (pc' := 90) C dX3_put_89 rfl ?_
    refine p_X3_85 (pc' := 93) C dX3_put_90 (by first | assumption | exact rfl | exact al13 rfl | exact Nat.le_of_ble_eq_true rfl) rfl ?_
    exact g_vret C hR dX3_put_93 hpost
  | succ n ih =>
    intro k x6 I P X hm hr hnow ex6 hk hpost
    subst ex6
    refine g_iload (pc' := 20) C dX3_put_18 rfl rfl ?_
    refine g_aload_n (pc' := 21) C dX3_put_20 rfl rfl ?_
    refine f_X3_167 (pc' := 24) C dX3_put_21 (by first | assumption | exact rfl | exact al13 rfl | exact Nat.le_of_ble_eq_true rfl) rfl ?_
    refine g_icmp_ge (tgt := 77) (pc' := 27) C dX3_put_24 (by decide) rfl (fun c1 => absurd c1 (by rw [hr]; exact nI_ge (by omega) (by omega))) (fun c1 => ?_)
    refine g_iload (pc' := 29) C dX3_put_27 rfl rfl ?_
    refine g_aload_n (pc' := 30) C dX3_put_29 rfl rfl ?_
    refine f_X3_268 (pc' := 33) C dX3_put_30 (by first | assumption | exact rfl | exact al13 rfl | exact Nat.le_of_ble_eq_true rfl) rfl ?_
    refine g_alen (pc' := 34) (v := 4) (t0 := 0) C dX3_put_33 (by first | assumption | exact rfl | exact al13 rfl | exact Nat.le_of_ble_eq_true rfl) rfl rfl rfl rfl ?_
    refine g_icmp_ge (tgt := 77) (pc' := 37) C dX3_put_34 (by decide) rfl (fun c2 => absurd c2 (nI_ge (a := k) (b := 4) (by omega) (by decide))) (fun c2 => ?_)
    refine g_aload_n (pc' := 38) C dX3_put_37 rfl rfl ?_
    refine f_X3_268 (pc' := 41) C dX3_put_38 (by first | assumption | exact rfl | exact al13 rfl | exact Nat.le_of_ble_eq_true rfl) rfl ?_
    refine g_iload (pc' := 43) C dX3_put_41 rfl rfl ?_
    refine g_aload (pc' := 45) C dX3_put_43 rfl rfl ?_
    refine g_ifnonnull (tgt := 52) C dX3_put_45 (by decide) ?_
    refine g_aload (pc' := 54) C dX3_put_52 rfl rfl ?_
    refine g_iload (pc' := 56) C dX3_put_54 rfl rfl ?_
    refine g_iload (pc' := 58) C dX3_put_56 rfl rfl ?_
    refine g_iadd (pc' := 59) C dX3_put_58 rfl ?_
    refine g_aload_n (pc' := 60) C dX3_put_59 rfl rfl ?_
    refine f_X3_38 (pc' := 63) C dX3_put_60 (by first | assumption | exact rfl | exact al13 rfl | exact Nat.le_of_ble_eq_true rfl) rfl ?_
    refine g_aload_n (pc' := 64) C dX3_put_63 rfl rfl ?_
    refine f_X3_161 (pc' := 67) C hm dX3_put_64 (by first | assumption | exact rfl | exact al13 rfl | exact Nat.le_of_ble_eq_true rfl) rfl ?_
    refine k_X3_272 (pc' := 70) C (m_X1_take hi hm2 (fun q hq => X.h9 hi (rg_lt _) hq)) dX3_put_67 (by first | assumption | exact rfl | exact al13 rfl | exact Nat.le_of_ble_eq_true rfl) ⟨⟨Nat.le_of_ble_eq_true rfl, Nat.le_of_ble_eq_true rfl⟩, rfl, rfl⟩ (Nat.le_of_ble_eq_true rfl) ⟨Nat.zero_le _, Nat.zero_le _⟩ rfl ?_
    refine g_iast (pc' := 71) C (k) rfl (by omega) dX3_put_70 (by first | assumption | exact rfl | exact al13 rfl | exact Nat.le_of_ble_eq_true rfl) (fun _ => rfl) rfl rfl ?_
    refine g_iinc (pc' := 74) C dX3_put_71 rfl (ii1 _) rfl rfl ?_
    refine g_goto (tgt := 18) C dX3_put_74 (by decide) ?_
    refine G_pick [0, 1, 2, 3, 4, 5, 6] rfl (ih (k + 1) _ _ _ (XI.upI X.tk _ (by omega) (by omega) (by omega)) (by rw [tkP_off (by decide)]; exact hm) (by rw [upI_at, if_neg (by omega), tkI_off (by omega)]; exact hr) (by rw [upI_at, if_neg (by omega), tkI_off (by omega)]; exact hnow) (nI_1 k) (by omega) ?_)
    rw [hnow]
    exact hpost
set_option maxRecDepth 20000 in
theorem m_X3_putS {l : Launch} {g : wG} {z : wZ} {I : wI} {P : wP} {O : wO} {h i : Nat} {r x f : Int32} (X : XI z I P) (hh : wAl z 3 h) (hj : x = nI i) (hi : wAl z 1 i) : RT l yX3_put cX3_put 7 (none) { frames := 3, cells := 0, slots := 0, locals := 69 } g z [.ref (g.2.2 0 0), .ref (g.2.2 3 h), .int r, .int x, .int f] I P O (dp (none) ((putS I P h i r x f).1) ((putS I P h i r x f).2)) := by
  refine RT.of (own := RX3) rfl (by decide +kernel) (Nat.le_of_ble_eq_true rfl) rfl (fun K C hl hg hR => ?_)
  subst hl
  subst hg
  refine g_aload_n (pc' := 1) C dX3_put_0 rfl rfl ?_
  refine g_iload_n (pc' := 2) C dX3_put_1 rfl rfl ?_
  refine g_iload_n (pc' := 3) C dX3_put_2 rfl rfl ?_
  refine g_iload (pc' := 5) C dX3_put_3 rfl rfl ?_
  refine k_X3_264 (pc' := 8) C (m_X0_settleAt hh) dX3_put_5 (by first | assumption | exact rfl | exact al13 rfl | exact Nat.le_of_ble_eq_true rfl) ⟨⟨Nat.le_of_ble_eq_true rfl, Nat.le_of_ble_eq_true rfl⟩, rfl, rfl⟩ (Nat.le_of_ble_eq_true rfl) ⟨Nat.zero_le _, Nat.zero_le _⟩ rfl ?_
  refine g_aload_n (pc' := 9) C dX3_put_8 rfl rfl ?_
  refine g_iload_n (pc' := 10) C dX3_put_9 rfl rfl ?_
  refine k_X3_42 (pc' := 13) C (m_X3_interpreterAtS hj hi (X.2.2.2.2.2.2.1 i hi)) dX3_put_10 (by first | assumption | exact rfl | exact al13 rfl | exact Nat.le_of_ble_eq_true rfl) ⟨⟨Nat.le_of_ble_eq_true rfl, Nat.le_of_ble_eq_true rfl⟩, rfl, rfl⟩ (Nat.le_of_ble_eq_true rfl) ⟨Nat.zero_le _, Nat.zero_le _⟩ rfl ?_
  refine g_astore (pc' := 15) C dX3_put_13 rfl rfl ?_
  refine g_iconst (v := 0) (pc' := 16) C dX3_put_15 (by decide) rfl ?_
  refine g_istore (pc' := 18) C dX3_put_16 rfl rfl ?_
  exact l_X3_putS C hR hh hi (X.hm2 hh) (X.hr4 hh) (hrN I h) 0 0 _ P X.sA (X.hm hh) (by rw [sA_off (by omega)]; exact X.hr hh) (sA_off (by omega)) nI_0.symm (by omega) ⟨rfl, rfl, rfl⟩
set_option maxRecDepth 20000 in
theorem l_X3_putN {K : wK} {z : wZ} {O : wO} {post : Option Value → wI → wP → Prop} {h m hr : Nat} {r x f : Int32} {P : wP} (C : Cx K cX3_put RX3 7 (none) { frames := 3, cells := 0, slots := 0, locals := 69 } z) (hR : Rx K z O post) (hh : wAl z 3 h) (hm : P 3 h 1 = some m) (hm2 : wAl z 2 m) (hr4 : hr ≤ 4) : ∀ (n k : Nat) (x6 : Int32) (I : wI), XI z I P → I 3 h 2 = nI hr → x6 = nI k → k + n = hr → post none (putB (p0L h n k I) m h) P → G K z I P O 0 0 18 [(0, .ref ((Kg K).2.2 0 0)), (1, .ref ((Kg K).2.2 3 h)), (2, .int r), (3, .int x), (4, .int f), (5, .null), (6, .int x6)] [] := by
  intro n
  induction n with
  | zero =>
    intro k x6 I X hr ex6 hk hpost
    subst ex6
    refine g_iload (pc' := 20) C dX3_put_18 rfl rfl ?_
    refine g_aload_n (pc' := 21) C dX3_put_20 rfl rfl ?_
    refine f_X3_167 (pc' := 24) C dX3_put_21 (by first | assumption | exact rfl | exact al13 rfl | exact Nat.le_of_ble_eq_true rfl) rfl ?_
    refine g_icmp_ge (tgt := 77) (pc' := 27) C dX3_put_24 (by decide) rfl (fun c1 => ?_) (fun c1 => absurd (by rw [hr, show k = _ by omega]; exact Int32.le_refl _) c1)
    refine g_aload_n (pc' := 78) C dX3_put_77 rfl rfl ?_
    refine f_X3_161 (pc' := 81) C hm dX3_put_78 (by first | assumption | exact rfl | exact al13 rfl | exact Nat.le_of_ble_eq_true rfl) rfl ?_
    refine g_dup (pc' := 82) C dX3_put_81 rfl rfl ?_
    refine f_X3_85 (pc' := 85) C dX3_put_82 (by first | assumption | exact rfl | exact al13 rfl | exact Nat.le_of_ble_eq_true rfl) rfl ?_
    refine g_aload_n (pc' := 86) C dX3_put_85 rfl rfl ?_
    refine k_X3_248 (pc' := 89) C (m_X0_charged hh) dX3_put_86 (by first | assumption | exact rfl | exact al13 rfl | exact Nat.le_of_ble_eq_true rfl) ⟨⟨Nat.le_of_ble_eq_true rfl, Nat.le_of_ble_eq_true rfl⟩, rfl, rfl⟩ (Nat.le_of_ble_eq_true rfl) ⟨Nat.zero_le _, Nat.zero_le _⟩ rfl ?_
    refine g_isub (pc' := 90) C dX3_put_89 rfl ?_
    refine p_X3_85 (pc' := 93) C dX3_put_90 (by first | assumption | exact rfl | exact al13 rfl | exact Nat.le_of_ble_eq_true rfl) rfl ?_
    exact g_vret C hR dX3_put_93 hpost
  | succ n ih =>
    intro k x6 I X hr ex6 hk hpost
    subst ex6
    refine g_iload (pc' := 20) C dX3_put_18 rfl rfl ?_
    refine g_aload_n (pc' := 21) C dX3_put_20 rfl rfl ?_
    refine f_X3_167 (pc' := 24) C dX3_put_21 (by first | assumption | exact rfl | exact al13 rfl | exact Nat.le_of_ble_eq_true rfl) rfl ?_
    refine g_icmp_ge (tgt := 77) (pc' := 27) C dX3_put_24 (by decide) rfl (fun c1 => absurd c1 (by rw [hr]; exact nI_ge (by omega) (by omega))) (fun c1 => ?_)
    refine g_iload (pc' := 29) C dX3_put_27 rfl rfl ?_
    refine g_aload_n (pc' := 30) C dX3_put_29 rfl rfl ?_
    refine f_X3_268 (pc' := 33) C dX3_put_30 (by first | assumption | exact rfl | exact al13 rfl | exact Nat.le_of_ble_eq_true rfl) rfl ?_
    refine g_alen (pc' := 34) (v := 4) (t0 := 0) C dX3_put_33 (by first | assumption | exact rfl | exact al13 rfl | exact Nat.le_of_ble_eq_true rfl) rfl rfl rfl rfl ?_
    refine g_icmp_ge (tgt := 77) (pc' := 37) C dX3_put_34 (by decide) rfl (fun c2 => absurd c2 (nI_ge (a := k) (b := 4) (by omega) (by decide))) (fun c2 => ?_)
    refine g_aload_n (pc' := 38) C dX3_put_37 rfl rfl ?_
    refine f_X3_268 (pc' := 41) C dX3_put_38 (by first | assumption | exact rfl | exact al13 rfl | exact Nat.le_of_ble_eq_true rfl) rfl ?_
    refine g_iload (pc' := 43) C dX3_put_41 rfl rfl ?_
    refine g_aloadN (pc' := 45) C dX3_put_43 rfl rfl ?_
    refine g_ifnonnullN (pc' := 48) C dX3_put_45 rfl ?_
    refine g_iconst (v := 0) (pc' := 49) C dX3_put_48 (by decide) rfl ?_
    refine g_goto (tgt := 70) C dX3_put_49 (by decide) ?_
    refine g_iast (pc' := 71) C (k) rfl (by omega) dX3_put_70 (by first | assumption | exact rfl | exact al13 rfl | exact Nat.le_of_ble_eq_true rfl) (fun _ => rfl) rfl rfl ?_
    refine g_iinc (pc' := 74) C dX3_put_71 rfl (ii1 _) rfl rfl ?_
    refine g_goto (tgt := 18) C dX3_put_74 (by decide) ?_
    exact G_pick [0, 1, 2, 3, 4, 5, 6] rfl (ih (k + 1) _ _ (XI.upI X _ (by omega) (by omega) (by omega)) (by rw [upI_at, if_neg (by omega)]; exact hr) (nI_1 k) (by omega) hpost)
set_option maxRecDepth 20000 in
theorem m_X3_putN {l : Launch} {g : wG} {z : wZ} {I : wI} {P : wP} {O : wO} {h : Nat} {r x f : Int32} (X : XI z I P) (hh : wAl z 3 h) (hx : x < 0 ∨ 4 ≤ x) : RT l yX3_put cX3_put 7 (none) { frames := 3, cells := 0, slots := 0, locals := 69 } g z [.ref (g.2.2 0 0), .ref (g.2.2 3 h), .int r, .int x, .int f] I P O (dp (none) (putN I P h r x f) (P)) := by
  refine RT.of (own := RX3) rfl (by decide +kernel) (Nat.le_of_ble_eq_true rfl) rfl (fun K C hl hg hR => ?_)
  subst hl
  subst hg
  refine g_aload_n (pc' := 1) C dX3_put_0 rfl rfl ?_
  refine g_iload_n (pc' := 2) C dX3_put_1 rfl rfl ?_
  refine g_iload_n (pc' := 3) C dX3_put_2 rfl rfl ?_
  refine g_iload (pc' := 5) C dX3_put_3 rfl rfl ?_
  refine k_X3_264 (pc' := 8) C (m_X0_settleAt hh) dX3_put_5 (by first | assumption | exact rfl | exact al13 rfl | exact Nat.le_of_ble_eq_true rfl) ⟨⟨Nat.le_of_ble_eq_true rfl, Nat.le_of_ble_eq_true rfl⟩, rfl, rfl⟩ (Nat.le_of_ble_eq_true rfl) ⟨Nat.zero_le _, Nat.zero_le _⟩ rfl ?_
  refine g_aload_n (pc' := 9) C dX3_put_8 rfl rfl ?_
  refine g_iload_n (pc' := 10) C dX3_put_9 rfl rfl ?_
  refine k_X3_42 (pc' := 13) C (m_X3_interpreterAtN hx) dX3_put_10 (by first | assumption | exact rfl | exact al13 rfl | exact Nat.le_of_ble_eq_true rfl) ⟨⟨Nat.le_of_ble_eq_true rfl, Nat.le_of_ble_eq_true rfl⟩, rfl, rfl⟩ (Nat.le_of_ble_eq_true rfl) ⟨Nat.zero_le _, Nat.zero_le _⟩ rfl ?_
  refine g_astoreN (pc' := 15) C dX3_put_13 rfl rfl ?_
  refine g_iconst (v := 0) (pc' := 16) C dX3_put_15 (by decide) rfl ?_
  refine g_istore (pc' := 18) C dX3_put_16 rfl rfl ?_
  exact l_X3_putN C hR hh (X.hm hh) (X.hm2 hh) (X.hr4 hh) (hrN I h) 0 0 _ X.sA (by rw [sA_off (by omega)]; exact X.hr hh) nI_0.symm (by omega) ⟨rfl, rfl, rfl⟩
set_option maxRecDepth 20000 in
theorem l_X3_dropAllOf {K : wK} {z : wZ} {O : wO} {post : Option Value → wI → wP → Prop} {m : Nat} (C : Cx K cX3_dropAllOf RX3 5 ((some .int)) { frames := 3, cells := 0, slots := 0, locals := 67 } z) (hR : Rx K z O post) (hm2 : wAl z 2 m) : ∀ (n h : Nat) (x2 x3 : Int32) (I : wI) (P : wP), XI z I P → x3 = nI h → h + n = z.2 → post (some (.int (daL m n h (I, P, x2)).2.2)) (daL m n h (I, P, x2)).1 (daL m n h (I, P, x2)).2.1 → G K z I P O 0 0 4 [(0, .ref ((Kg K).2.2 0 0)), (1, .ref ((Kg K).2.2 2 m)), (2, .int x2), (3, .int x3)] [] := by
  intro n
  induction n with
  | zero =>
    intro h x2 x3 I P X ex3 hk hpost
    refine g_iload_n (pc' := 5) C dX3_dropAllOf_4 rfl rfl ?_
    refine g_aload_n (pc' := 6) C dX3_dropAllOf_5 rfl rfl ?_
    refine f_X3_35 (pc' := 9) C dX3_dropAllOf_6 (by first | assumption | exact rfl | exact al13 rfl | exact Nat.le_of_ble_eq_true rfl) rfl ?_
    refine g_icmp_ge (tgt := 71) (pc' := 12) C dX3_dropAllOf_9 (by decide) rfl (fun c1 => ?_) (fun c1 => absurd (by rw [ex3, X.2.2.2.1, show h = z.2 by omega]; exact Int32.le_refl _) c1)
    refine g_iload_n (pc' := 72) C dX3_dropAllOf_71 rfl rfl ?_
    exact g_iret C hR dX3_dropAllOf_72 hpost
  | succ n ih =>
    intro h x2 x3 I P X ex3 hk hpost
    have hhz : h < z.2 := by omega
    have hh : wAl z 3 h := hhz
    have hmx := X.hm2 hh
    refine g_iload_n (pc' := 5) C dX3_dropAllOf_4 rfl rfl ?_
    refine g_aload_n (pc' := 6) C dX3_dropAllOf_5 rfl rfl ?_
    refine f_X3_35 (pc' := 9) C dX3_dropAllOf_6 (by first | assumption | exact rfl | exact al13 rfl | exact Nat.le_of_ble_eq_true rfl) rfl ?_
    refine g_icmp_ge (tgt := 71) (pc' := 12) C dX3_dropAllOf_9 (by decide) rfl (fun c1 => absurd c1 (by rw [ex3, X.2.2.2.1]; exact nI_ge hhz (by have := X.2.1; omega))) (fun c1 => ?_)
    refine g_aload_n (pc' := 13) C dX3_dropAllOf_12 rfl rfl ?_
    refine g_iload_n (pc' := 14) C dX3_dropAllOf_13 rfl rfl ?_
    refine k_X3_149 (pc' := 17) C (m_X3_hearingAtS X ex3 hhz) dX3_dropAllOf_14 (by first | assumption | exact rfl | exact al13 rfl | exact Nat.le_of_ble_eq_true rfl) ⟨⟨Nat.le_of_ble_eq_true rfl, Nat.le_of_ble_eq_true rfl⟩, rfl, rfl⟩ (Nat.le_of_ble_eq_true rfl) ⟨Nat.zero_le _, Nat.zero_le _⟩ rfl ?_
    refine g_astore (pc' := 19) C dX3_dropAllOf_17 rfl rfl ?_
    refine g_aload (pc' := 21) C dX3_dropAllOf_19 rfl rfl ?_
    refine g_ifnull (pc' := 24) C dX3_dropAllOf_21 rfl ?_
    refine g_aload (pc' := 26) C dX3_dropAllOf_24 rfl rfl ?_
    refine f_X3_161 (pc' := 29) C (X.hm hh) dX3_dropAllOf_26 (by first | assumption | exact rfl | exact al13 rfl | exact Nat.le_of_ble_eq_true rfl) rfl ?_
    refine g_aload_n (pc' := 30) C dX3_dropAllOf_29 rfl rfl ?_
    refine g_acmp_ne2 (tgt := 65) (pc' := 33) C (by first | assumption | exact rfl | exact al13 rfl | exact Nat.le_of_ble_eq_true rfl) (by first | assumption | exact rfl | exact al13 rfl | exact Nat.le_of_ble_eq_true rfl) dX3_dropAllOf_30 (by decide) rfl (fun c2 => ?_) (fun c2 => ?_)
    ·
      refine g_iinc (pc' := 68) C dX3_dropAllOf_65 rfl (ii1 _) rfl rfl ?_
      refine g_goto (tgt := 4) C dX3_dropAllOf_68 (by decide) ?_
      refine G_pick [0, 1, 2, 3] rfl (ih (h + 1) _ _ _ _ (by first | exact X | exact XI.upI (X.lvR hh) _ (by omega) (by omega) (by omega) | exact XI.upI X _ (by omega) (by omega) (by omega)) (by rw [ex3]; exact nI_1 h) (by omega) ?_)
      try simp [c3] at c4
      simpa [daL, daS, c1, c2] using hpost
    ·
      refine g_aload (pc' := 35) C dX3_dropAllOf_33 rfl rfl ?_
      refine f_X3_178 (pc' := 38) C dX3_dropAllOf_35 (by first | assumption | exact rfl | exact al13 rfl | exact Nat.le_of_ble_eq_true rfl) rfl ?_
      refine g_if_ne (tgt := 65) (pc' := 41) C dX3_dropAllOf_38 (by decide) rfl (fun c3 => ?_) (fun c3 => ?_)
      ·
        refine g_iinc (pc' := 68) C dX3_dropAllOf_65 rfl (ii1 _) rfl rfl ?_
        refine g_goto (tgt := 4) C dX3_dropAllOf_68 (by decide) ?_
        refine G_pick [0, 1, 2, 3] rfl (ih (h + 1) _ _ _ _ (by first | exact X | exact XI.upI (X.lvR hh) _ (by omega) (by omega) (by omega) | exact XI.upI X _ (by omega) (by omega) (by omega)) (by rw [ex3]; exact nI_1 h) (by omega) ?_)
        try simp [c3] at c4
        simpa [daL, daS, c1, c2, c3] using hpost
      ·
        refine g_aload_n (pc' := 42) C dX3_dropAllOf_41 rfl rfl ?_
        refine g_aload (pc' := 44) C dX3_dropAllOf_42 rfl rfl ?_
        refine k_X3_157 (pc' := 47) C (m_X3_isToBegin hh) dX3_dropAllOf_44 (by first | assumption | exact rfl | exact al13 rfl | exact Nat.le_of_ble_eq_true rfl) ⟨⟨Nat.le_of_ble_eq_true rfl, Nat.le_of_ble_eq_true rfl⟩, rfl, rfl⟩ (Nat.le_of_ble_eq_true rfl) ⟨Nat.zero_le _, Nat.zero_le _⟩ rfl ?_
        refine g_if_eq (tgt := 56) (pc' := 50) C dX3_dropAllOf_47 (by decide) rfl (fun c4 => ?_) (fun c4 => ?_)
        ·
          have c4 := b2_0.mp c4
          refine g_aload (pc' := 58) C dX3_dropAllOf_56 rfl rfl ?_
          refine g_iconst (v := 3) (pc' := 59) C dX3_dropAllOf_58 (by decide) rfl ?_
          refine p_X3_178 (pc' := 62) C dX3_dropAllOf_59 (by first | assumption | exact rfl | exact al13 rfl | exact Nat.le_of_ble_eq_true rfl) rfl ?_
          refine g_iinc (pc' := 65) C dX3_dropAllOf_62 rfl (ii1 _) rfl rfl ?_
          refine g_iinc (pc' := 68) C dX3_dropAllOf_65 rfl (ii1 _) rfl rfl ?_
          refine g_goto (tgt := 4) C dX3_dropAllOf_68 (by decide) ?_
          refine G_pick [0, 1, 2, 3] rfl (ih (h + 1) _ _ _ _ (by first | exact X | exact XI.upI (X.lvR hh) _ (by omega) (by omega) (by omega) | exact XI.upI X _ (by omega) (by omega) (by omega)) (by rw [ex3]; exact nI_1 h) (by omega) ?_)
          try simp [c3] at c4
          simpa [daL, daS, c1, c2, c3, c4] using hpost
        ·
          have c4 := b2_1.mp c4
          refine g_aload_n (pc' := 51) C dX3_dropAllOf_50 rfl rfl ?_
          refine g_aload (pc' := 53) C dX3_dropAllOf_51 rfl rfl ?_
          refine k_X3_170 (pc' := 56) C (m_X3_leave X hh) dX3_dropAllOf_53 (by first | assumption | exact rfl | exact al13 rfl | exact Nat.le_of_ble_eq_true rfl) ⟨⟨Nat.le_of_ble_eq_true rfl, Nat.le_of_ble_eq_true rfl⟩, rfl, rfl⟩ (Nat.le_of_ble_eq_true rfl) ⟨Nat.zero_le _, Nat.zero_le _⟩ rfl ?_
          refine g_aload (pc' := 58) C dX3_dropAllOf_56 rfl rfl ?_
          refine g_iconst (v := 3) (pc' := 59) C dX3_dropAllOf_58 (by decide) rfl ?_
          refine p_X3_178 (pc' := 62) C dX3_dropAllOf_59 (by first | assumption | exact rfl | exact al13 rfl | exact Nat.le_of_ble_eq_true rfl) rfl ?_
          refine g_iinc (pc' := 65) C dX3_dropAllOf_62 rfl (ii1 _) rfl rfl ?_
          refine g_iinc (pc' := 68) C dX3_dropAllOf_65 rfl (ii1 _) rfl rfl ?_
          refine g_goto (tgt := 4) C dX3_dropAllOf_68 (by decide) ?_
          refine G_pick [0, 1, 2, 3] rfl (ih (h + 1) _ _ _ _ (by first | exact X | exact XI.upI (X.lvR hh) _ (by omega) (by omega) (by omega) | exact XI.upI X _ (by omega) (by omega) (by omega)) (by rw [ex3]; exact nI_1 h) (by omega) ?_)
          try simp [c3] at c4
          simpa [daL, daS, c1, c2, c3, c4] using hpost
set_option maxRecDepth 20000 in
theorem m_X3_dropAllOf {l : Launch} {g : wG} {z : wZ} {I : wI} {P : wP} {O : wO} {m : Nat} (X : XI z I P) (hm2 : wAl z 2 m) : RT l yX3_dropAllOf cX3_dropAllOf 5 ((some .int)) { frames := 3, cells := 0, slots := 0, locals := 67 } g z [.ref (g.2.2 0 0), .ref (g.2.2 2 m)] I P O (dp (some (.int (daL m z.2 0 (I, P, 0)).2.2)) ((daL m z.2 0 (I, P, 0)).1) ((daL m z.2 0 (I, P, 0)).2.1)) := by
  refine RT.of (own := RX3) rfl (by decide +kernel) (Nat.le_of_ble_eq_true rfl) rfl (fun K C hl hg hR => ?_)
  subst hl
  subst hg
  refine g_iconst (v := 0) (pc' := 1) C dX3_dropAllOf_0 (by decide) rfl ?_
  refine g_istore_n (pc' := 2) C dX3_dropAllOf_1 rfl rfl ?_
  refine g_iconst (v := 0) (pc' := 3) C dX3_dropAllOf_2 (by decide) rfl ?_
  refine g_istore_n (pc' := 4) C dX3_dropAllOf_3 rfl rfl ?_
  exact l_X3_dropAllOf C hR hm2 z.2 0 0 0 I P X nI_0.symm (by omega) ⟨rfl, rfl, rfl⟩
end WPut
end
