section
-- ===== PART A: goes FIRST, ahead of the names: the tables' words, and 'selects' of the private methods out of them =====
/-- a private method of a class that the tables say can be made, by its rows of tables_1 -/
def lw_okq (q : MethodName × Nat) : Prop := (q.1.cls ≠ "java/lang/invoke/MethodHandle" ∧ q.1.cls ≠ "java/lang/invoke/VarHandle") ∧ Cond.instantiable q.1.cls q.2 ∈ tables_1 ∧ Cond.privateMethod q.1 ∈ tables_1 ∧ Cond.instanceMethod q.1 ∈ tables_1
theorem lw_p0 : lw_okq (⟨"Hearingpay", "matterAt", "(I)LHearingpay$Matter;"⟩, 7) := ⟨⟨by decide +kernel, by decide +kernel⟩, List.mem_of_getElem? (i := 13) (by decide +kernel), List.mem_of_getElem? (i := 79) (by decide +kernel), List.mem_of_getElem? (i := 80) (by decide +kernel)⟩
theorem lw_p1 : lw_okq (⟨"Hearingpay", "interpreterAt", "(I)LHearingpay$Interpreter;"⟩, 7) := ⟨⟨by decide +kernel, by decide +kernel⟩, List.mem_of_getElem? (i := 13) (by decide +kernel), List.mem_of_getElem? (i := 96) (by decide +kernel), List.mem_of_getElem? (i := 97) (by decide +kernel)⟩
theorem lw_p2 : lw_okq (⟨"java/lang/Throwable", "fillInStackTrace", "(I)Ljava/lang/Throwable;"⟩, 6) := ⟨⟨by decide +kernel, by decide +kernel⟩, List.mem_of_getElem? (i := 138) (by decide +kernel), List.mem_of_getElem? (i := 136) (by decide +kernel), List.mem_of_getElem? (i := 137) (by decide +kernel)⟩
theorem lw_p3 : lw_okq (⟨"Hearingpay", "feeFor", "(LHearingpay$Matter;I)I"⟩, 7) := ⟨⟨by decide +kernel, by decide +kernel⟩, List.mem_of_getElem? (i := 13) (by decide +kernel), List.mem_of_getElem? (i := 267) (by decide +kernel), List.mem_of_getElem? (i := 268) (by decide +kernel)⟩
theorem lw_p4 : lw_okq (⟨"Hearingpay", "dropAllOf", "(LHearingpay$Matter;)I"⟩, 7) := ⟨⟨by decide +kernel, by decide +kernel⟩, List.mem_of_getElem? (i := 13) (by decide +kernel), List.mem_of_getElem? (i := 288) (by decide +kernel), List.mem_of_getElem? (i := 289) (by decide +kernel)⟩
theorem lw_p5 : lw_okq (⟨"Hearingpay", "hearingAt", "(I)LHearingpay$Hearing;"⟩, 7) := ⟨⟨by decide +kernel, by decide +kernel⟩, List.mem_of_getElem? (i := 13) (by decide +kernel), List.mem_of_getElem? (i := 292) (by decide +kernel), List.mem_of_getElem? (i := 293) (by decide +kernel)⟩
theorem lw_p6 : lw_okq (⟨"Hearingpay", "isToBegin", "(LHearingpay$Hearing;)Z"⟩, 7) := ⟨⟨by decide +kernel, by decide +kernel⟩, List.mem_of_getElem? (i := 13) (by decide +kernel), List.mem_of_getElem? (i := 296) (by decide +kernel), List.mem_of_getElem? (i := 297) (by decide +kernel)⟩
theorem lw_p7 : lw_okq (⟨"Hearingpay", "leave", "(LHearingpay$Hearing;)V"⟩, 7) := ⟨⟨by decide +kernel, by decide +kernel⟩, List.mem_of_getElem? (i := 13) (by decide +kernel), List.mem_of_getElem? (i := 300) (by decide +kernel), List.mem_of_getElem? (i := 301) (by decide +kernel)⟩
theorem lw_p8 : lw_okq (⟨"Hearingpay", "isAsNeeded", "(LHearingpay$Matter;I)Z"⟩, 7) := ⟨⟨by decide +kernel, by decide +kernel⟩, List.mem_of_getElem? (i := 13) (by decide +kernel), List.mem_of_getElem? (i := 352) (by decide +kernel), List.mem_of_getElem? (i := 353) (by decide +kernel)⟩
theorem lw_p9 : lw_okq (⟨"Hearingpay", "clashReason", "(LHearingpay$Hearing;LHearingpay$Matter;IIII)I"⟩, 7) := ⟨⟨by decide +kernel, by decide +kernel⟩, List.mem_of_getElem? (i := 13) (by decide +kernel), List.mem_of_getElem? (i := 361) (by decide +kernel), List.mem_of_getElem? (i := 362) (by decide +kernel)⟩
theorem lw_p10 : lw_okq (⟨"Hearingpay", "put", "(LHearingpay$Hearing;III)V"⟩, 7) := ⟨⟨by decide +kernel, by decide +kernel⟩, List.mem_of_getElem? (i := 13) (by decide +kernel), List.mem_of_getElem? (i := 426) (by decide +kernel), List.mem_of_getElem? (i := 427) (by decide +kernel)⟩
theorem lw_p11 : lw_okq (⟨"Hearingpay", "endHearings", "()I"⟩, 7) := ⟨⟨by decide +kernel, by decide +kernel⟩, List.mem_of_getElem? (i := 13) (by decide +kernel), List.mem_of_getElem? (i := 485) (by decide +kernel), List.mem_of_getElem? (i := 486) (by decide +kernel)⟩
theorem lw_p12 : lw_okq (⟨"Hearingpay", "runTerms", "()V"⟩, 7) := ⟨⟨by decide +kernel, by decide +kernel⟩, List.mem_of_getElem? (i := 13) (by decide +kernel), List.mem_of_getElem? (i := 494) (by decide +kernel), List.mem_of_getElem? (i := 495) (by decide +kernel)⟩
theorem lw_p13 : lw_okq (⟨"Hearingpay", "paidHoursOf", "(LHearingpay$Matter;)I"⟩, 7) := ⟨⟨by decide +kernel, by decide +kernel⟩, List.mem_of_getElem? (i := 13) (by decide +kernel), List.mem_of_getElem? (i := 533) (by decide +kernel), List.mem_of_getElem? (i := 534) (by decide +kernel)⟩
theorem lw_p14 : lw_okq (⟨"HearingpayModel", "isMatter", "(I)Z"⟩, 24) := ⟨⟨by decide +kernel, by decide +kernel⟩, List.mem_of_getElem? (i := 561) (by decide +kernel), List.mem_of_getElem? (i := 663) (by decide +kernel), List.mem_of_getElem? (i := 664) (by decide +kernel)⟩
theorem lw_p15 : lw_okq (⟨"HearingpayModel", "leaves", "(I)V"⟩, 24) := ⟨⟨by decide +kernel, by decide +kernel⟩, List.mem_of_getElem? (i := 561) (by decide +kernel), List.mem_of_getElem? (i := 671) (by decide +kernel), List.mem_of_getElem? (i := 672) (by decide +kernel)⟩
def lw_privs_1 : List (MethodName × Nat) := [(⟨"Hearingpay", "matterAt", "(I)LHearingpay$Matter;"⟩, 7), (⟨"Hearingpay", "interpreterAt", "(I)LHearingpay$Interpreter;"⟩, 7), (⟨"java/lang/Throwable", "fillInStackTrace", "(I)Ljava/lang/Throwable;"⟩, 6), (⟨"Hearingpay", "feeFor", "(LHearingpay$Matter;I)I"⟩, 7), (⟨"Hearingpay", "dropAllOf", "(LHearingpay$Matter;)I"⟩, 7), (⟨"Hearingpay", "hearingAt", "(I)LHearingpay$Hearing;"⟩, 7), (⟨"Hearingpay", "isToBegin", "(LHearingpay$Hearing;)Z"⟩, 7), (⟨"Hearingpay", "leave", "(LHearingpay$Hearing;)V"⟩, 7), (⟨"Hearingpay", "isAsNeeded", "(LHearingpay$Matter;I)Z"⟩, 7), (⟨"Hearingpay", "clashReason", "(LHearingpay$Hearing;LHearingpay$Matter;IIII)I"⟩, 7), (⟨"Hearingpay", "put", "(LHearingpay$Hearing;III)V"⟩, 7), (⟨"Hearingpay", "endHearings", "()I"⟩, 7), (⟨"Hearingpay", "runTerms", "()V"⟩, 7), (⟨"Hearingpay", "paidHoursOf", "(LHearingpay$Matter;)I"⟩, 7), (⟨"HearingpayModel", "isMatter", "(I)Z"⟩, 24), (⟨"HearingpayModel", "leaves", "(I)V"⟩, 24)]
theorem lw_r1 : ∀ q ∈ lw_privs_1, lw_okq q := List.forall_mem_cons.mpr ⟨lw_p0, List.forall_mem_cons.mpr ⟨lw_p1, List.forall_mem_cons.mpr ⟨lw_p2, List.forall_mem_cons.mpr ⟨lw_p3, List.forall_mem_cons.mpr ⟨lw_p4, List.forall_mem_cons.mpr ⟨lw_p5, List.forall_mem_cons.mpr ⟨lw_p6, List.forall_mem_cons.mpr ⟨lw_p7, List.forall_mem_cons.mpr ⟨lw_p8, List.forall_mem_cons.mpr ⟨lw_p9, List.forall_mem_cons.mpr ⟨lw_p10, List.forall_mem_cons.mpr ⟨lw_p11, List.forall_mem_cons.mpr ⟨lw_p12, List.forall_mem_cons.mpr ⟨lw_p13, List.forall_mem_cons.mpr ⟨lw_p14, List.forall_mem_cons.mpr ⟨lw_p15, fun _ h => absurd h List.not_mem_nil⟩⟩⟩⟩⟩⟩⟩⟩⟩⟩⟩⟩⟩⟩⟩⟩
theorem lw_p16 : lw_okq (⟨"HearingpayModel", "isOpen", "(I)Z"⟩, 24) := ⟨⟨by decide +kernel, by decide +kernel⟩, List.mem_of_getElem? (i := 561) (by decide +kernel), List.mem_of_getElem? (i := 694) (by decide +kernel), List.mem_of_getElem? (i := 695) (by decide +kernel)⟩
theorem lw_p17 : lw_okq (⟨"HearingpayModel", "fits", "(II)Z"⟩, 24) := ⟨⟨by decide +kernel, by decide +kernel⟩, List.mem_of_getElem? (i := 561) (by decide +kernel), List.mem_of_getElem? (i := 698) (by decide +kernel), List.mem_of_getElem? (i := 699) (by decide +kernel)⟩
theorem lw_p18 : lw_okq (⟨"HearingpayModel", "reason", "(IIIIII)I"⟩, 24) := ⟨⟨by decide +kernel, by decide +kernel⟩, List.mem_of_getElem? (i := 561) (by decide +kernel), List.mem_of_getElem? (i := 702) (by decide +kernel), List.mem_of_getElem? (i := 703) (by decide +kernel)⟩
theorem lw_p19 : lw_okq (⟨"HearingpayModel", "clashes", "(IIIIIII)Z"⟩, 24) := ⟨⟨by decide +kernel, by decide +kernel⟩, List.mem_of_getElem? (i := 561) (by decide +kernel), List.mem_of_getElem? (i := 706) (by decide +kernel), List.mem_of_getElem? (i := 707) (by decide +kernel)⟩
theorem lw_p20 : lw_okq (⟨"HearingpayModel", "comes", "(I)V"⟩, 24) := ⟨⟨by decide +kernel, by decide +kernel⟩, List.mem_of_getElem? (i := 561) (by decide +kernel), List.mem_of_getElem? (i := 713) (by decide +kernel), List.mem_of_getElem? (i := 714) (by decide +kernel)⟩
theorem lw_p21 : lw_okq (⟨"HearingpayModel", "isHearing", "(I)Z"⟩, 24) := ⟨⟨by decide +kernel, by decide +kernel⟩, List.mem_of_getElem? (i := 561) (by decide +kernel), List.mem_of_getElem? (i := 721) (by decide +kernel), List.mem_of_getElem? (i := 722) (by decide +kernel)⟩
theorem lw_p22 : lw_okq (⟨"HearingpayModel", "ends", "()I"⟩, 24) := ⟨⟨by decide +kernel, by decide +kernel⟩, List.mem_of_getElem? (i := 561) (by decide +kernel), List.mem_of_getElem? (i := 737) (by decide +kernel), List.mem_of_getElem? (i := 738) (by decide +kernel)⟩
theorem lw_p23 : lw_okq (⟨"HearingpayModel", "toCome", "(I)I"⟩, 24) := ⟨⟨by decide +kernel, by decide +kernel⟩, List.mem_of_getElem? (i := 561) (by decide +kernel), List.mem_of_getElem? (i := 753) (by decide +kernel), List.mem_of_getElem? (i := 754) (by decide +kernel)⟩
def lw_privs_2 : List (MethodName × Nat) := [(⟨"HearingpayModel", "isOpen", "(I)Z"⟩, 24), (⟨"HearingpayModel", "fits", "(II)Z"⟩, 24), (⟨"HearingpayModel", "reason", "(IIIIII)I"⟩, 24), (⟨"HearingpayModel", "clashes", "(IIIIIII)Z"⟩, 24), (⟨"HearingpayModel", "comes", "(I)V"⟩, 24), (⟨"HearingpayModel", "isHearing", "(I)Z"⟩, 24), (⟨"HearingpayModel", "ends", "()I"⟩, 24), (⟨"HearingpayModel", "toCome", "(I)I"⟩, 24)]
theorem lw_r2 : ∀ q ∈ lw_privs_2, lw_okq q := List.forall_mem_cons.mpr ⟨lw_p16, List.forall_mem_cons.mpr ⟨lw_p17, List.forall_mem_cons.mpr ⟨lw_p18, List.forall_mem_cons.mpr ⟨lw_p19, List.forall_mem_cons.mpr ⟨lw_p20, List.forall_mem_cons.mpr ⟨lw_p21, List.forall_mem_cons.mpr ⟨lw_p22, List.forall_mem_cons.mpr ⟨lw_p23, fun _ h => absurd h List.not_mem_nil⟩⟩⟩⟩⟩⟩⟩⟩
def lw_privs : List (MethodName × Nat) := lw_privs_1 ++ (lw_privs_2)
def lw_tbl : List Cond := k2_sels lw_privs ++ tables_1
theorem lw_privs_ok : ∀ q ∈ lw_privs, lw_okq q := by
  show ∀ q ∈ lw_privs_1 ++ (lw_privs_2), lw_okq q
  exact List.forall_mem_append.mpr ⟨lw_r1, lw_r2⟩
-- ===== end of PART A; then your names; then what follows =====
/-! ===== BEGIN words of one list among another's, by their places ===== -/
theorem goodIn_r {big : List Cond} (ws : List Cond) (ps : List Nat) (hp : ws = ps.filterMap (fun i => big[i]?)) (h : ws.all goodWord = true) : GoodIn big ws := by
  intro w hw
  have h1 := List.all_eq_true.mp h w hw
  rw [hp] at hw
  obtain ⟨i, -, hi⟩ := List.mem_filterMap.mp hw
  have hm : w ∈ big := by first | exact List.mem_of_getElem? hi | exact List.getElem?_mem hi
  exact ⟨hm, good_of_word h1⟩
theorem goodIn_app {big a b : List Cond} (ha : GoodIn big a) (hb : GoodIn big b) : GoodIn big (a ++ b) := fun w h => (List.mem_append.mp h).elim (ha w) (hb w)
theorem goodIn_ca {big a b : List Cond} {c : Cond} (ha : GoodIn big (c :: a)) (hb : GoodIn big b) : GoodIn big (c :: (a ++ b)) := fun w h => (List.mem_cons.mp h).elim (fun e => ha w (List.mem_cons.mpr (Or.inl e))) (fun h => (List.mem_append.mp h).elim (fun h => ha w (List.mem_cons.mpr (Or.inr h))) (hb w))
theorem goodIn_sub {big ws : List Cond} (hm : ∀ w ∈ ws, w ∈ big) (h : ws.all goodWord = true) : GoodIn big ws := fun w hw => ⟨hm w hw, good_of_word (List.all_eq_true.mp h w hw)⟩
/-! ===== END ===== -/

/-! ===== BEGIN exceptions that leave a method, and their catching by the caller (launches without stack traces) ===== -/
section VXA
/-! The laws vx_back, vx_callV, vx_callS, vx_callSW, vx_throw0, vx_throwS follow proofs of the library, with one case more: JvmDerived/Free/Laws.lean (Back.of_free), Shelf42/LK1.lean (callV, callS), Shelf/KitTraced.lean (throwNew0V, throwNewS). -/
/-- where a method has thrown q: the class by its name, the cell, what was written, the world -/
def vx_T (XC : String → State → State → Prop) (st : State) (q : Addr) (t : State) (mc ms : Nat) (free : Addr → Prop) : Prop :=
  ∃ (E : String) (ce : Cell) (L : List Loc), XC E st t ∧ t.heap[q]? = some ce ∧ ce.vm = .none ∧ st.vm.findClass E = some ce.cls ∧ st.WarmedH t.vm ∧ st.sameButNew ({ t with vm := st.vm } : State) L mc ms ∧ ∀ z ∈ L, free z.base
def vx_Q (Qc : Array Value → State → Outcome → State → Prop) (XC : String → State → State → Prop) (mc ms : Nat) (free : Addr → Prop) : Array Value → State → Outcome → State → Prop := fun a st o t =>
  (Qc a st o t ∧ ∃ L, FrameEnd st o t L mc ms ∧ ∀ q ∈ L, free q.base) ∨ ∃ q, o = .threw q ∧ vx_T XC st q t mc ms free
/-- a callee that returns or throws -/
def vx_Met (l : Launch) (y : MethodName) (ws : List Cond) (rm : Room) (Pc : Array Value → State → Prop) (Qc : Array Value → State → Outcome → State → Prop) (XC : String → State → State → Prop) (mc ms : Nat) (free : Addr → Prop) : Prop :=
  MetFree l y (headSpec ws rm) Pc (fun _ _ _ _ _ => True) (vx_Q Qc XC mc ms free)
def vx_Post (XC : String → State → State → Prop) (mc ms : Nat) (free : Addr → Prop) : Pt → Array Value → Addr → Pt → Prop := fun A a q B =>
  ∃ (g : JFrame) (mk : MethodId) (t : State) (L : List Loc) (E : String) (ce : Cell), B.U.heap = t.heap ∧ B.U.vm = t.vm ∧ XC E (A.U.calling g mk a) t ∧ t.heap[q]? = some ce ∧ ce.vm = .none ∧ A.U.vm.findClass E = some ce.cls ∧ B.locs = A.locs ++ L ∧ (∀ z ∈ L, free z.base) ∧ B.cells = A.cells + mc ∧ B.slots = A.slots + ms
def vx_Back (l : Launch) (R : Room) (p : Program) (e : Env) (below : List Frame) (s : State) (sargs : Array Value) (y : MethodName) (len W9 : Nat)
    (Pre : Pt → Array Value → Prop) (Post : Pt → Array Value → Option Value → Pt → Prop) (PostX : Pt → Array Value → Addr → Pt → Prop) : Prop :=
  ∀ (m : MethodId) (meth : Method) (c : Code) (A : Pt) (g : JFrame) (ig : Instr) (mk : MethodId) (a : Array Value),
    Stand p l e R s m sargs below meth c A.U A.locs A.cells A.slots → g.method = m → g.locals.size = c.maxLocals → decode c.code g.pc = .ok (ig, len) →
    2 * g.monitorRoom + (g.stack.map fun v => v.category).sum ≤ W9 → A.U.methodNamed? y = some mk → Pre A a →
    (∃ (v : Option Value) (B : Pt), Stand p l e R s m sargs below meth c B.U B.locs B.cells B.slots ∧ Post A a v B ∧
      Steps p.tables e below (doInvoke e (A.U.setTop g) [] mk a).1 (B.U.setTop { g with pc := g.pc + len, stack := v.toList ++ g.stack })) ∨
    (∃ (q : Addr) (B : Pt), Stand p l e R s m sargs below meth c B.U B.locs B.cells B.slots ∧ PostX A a q B ∧
      Steps p.tables e below (doInvoke e (A.U.setTop g) [] mk a).1 ((B.U.setTop g).pushFrame (.throwing q)))
section Payer
variable {l : Launch} {R : Room} {p : Program} {e : Env} {below : List Frame} {s : State} {sargs : Array Value} {y : MethodName} {len W9 : Nat}
theorem vx_back {ws : List Cond} {rm : Room} {Pc : Array Value → State → Prop} {Qc : Array Value → State → Outcome → State → Prop} {XC : String → State → State → Prop} {mc ms : Nat} {free : Addr → Prop} {bytes : ByteArray} {maxL : Nat} {ret : Option FieldType}
    (hM : vx_Met l y ws rm Pc Qc XC mc ms free) (hblind : FrameBlind Pc) (hrc : rm.cells = mc) (hrs : rm.slots = ms)
    (hframes : rm.frames + 1 ≤ R.frames) (hlocals : W9 + (maxL + 11) + rm.locals ≤ R.locals)
    (hws : ∀ w ∈ ws, ∀ a' U, s.WarmedH U.vm → w.before a' U = true) (hcode : Cond.code y bytes maxL ret ∈ ws) (hinit : ∀ a' U, s.WarmedH U.vm → (Cond.initialized y.cls).before a' U = true) :
    vx_Back l R p e below s sargs y len W9 (PreOf R mc ms Pc) (PostOf Qc mc ms free) (vx_Post XC mc ms free) := by
  intro m meth c A g ig mk a X hg hsize hdg hW hn hp
  have h1 : (headSpec ws rm).pre.before a A.U = true := atoms_intro fun w hw => hws w hw _ _ X.warmed
  have h2 : (Cond.code y bytes maxL ret).before a A.U = true := hws _ hcode _ _ X.warmed
  have h3 : (Cond.initialized y.cls).before a A.U = true := hinit _ _ X.warmed
  have h4 : A.cells + (headSpec ws rm).room.cells ≤ R.cells := by rw [show (headSpec ws rm).room.cells = mc from hrc]; exact hp.1
  have h5 : A.slots + (headSpec ws rm).room.slots ≤ R.slots := by rw [show (headSpec ws rm).room.slots = ms from hrs]; exact hp.2.1
  have hPc : Pc a (A.U.calling g mk a) := hblind _ _ _ _ hp.2.2
  obtain ⟨U, Ls, c0, s0⟩ := A
  dsimp only [Pt.U, Pt.locs, Pt.cells, Pt.slots] at h1 h2 h3 h4 h5 X hn hPc ⊢
  obtain ⟨methY, cY, hmY, hcY, -, hlY, -, -, -, -⟩ := Cond.code_spec hn h2
  obtain ⟨kY, hkY, -⟩ := className_of_methodNamed hn
  have hinitY : kY.init = .initialized := Cond.initialized_spec (findClass_of_methodNamed hn) hkY h3
  have h : At U g.method c below := by rw [hg]; exact X.here
  have hlocals9 : W9 + (maxL + 11) + (headSpec ws rm).room.locals ≤ R.locals := hlocals
  have happ : (headSpec ws rm).appliesLoose y e.platform (U.calling g mk a) = true :=
    Spec.appliesLoose_calling (g := g) h hdg hn hkY hinitY
      (X.room_calling (g := g) (R' := (headSpec ws rm).room) hsize hmY hcY hframes (by rw [hlY]; omega) h4 h5) h1
  obtain ⟨mid, hmid⟩ := h.above
  have hfr : (U.setTop g).frames = (.java g :: mid) ++ below := by rw [State.frames_setTop' g h.top, hmid]; rfl
  obtain ⟨o, s₂, hsteps, -, hend, hq⟩ := Steps.callFree hM p X.admits X.cas X.clock (acts := []) hfr happ hPc trivial
  have hq' : vx_Q Qc XC mc ms free a (U.calling g mk a) o s₂ := hq
  rw [State.frames_setTop' g h.top] at hend
  obtain ⟨g₀, hg0⟩ := Option.isSome_iff_exists.mp h.top
  obtain ⟨r, hr⟩ := State.topJava?_eq_some.mp hg0
  have hr' : (({ U with heap := s₂.heap, slotsUsed := s₂.slotsUsed } : State).setVm s₂.vm).frames = .java g₀ :: r := hr
  rcases hq' with ⟨hqc, L, hfe, hL⟩ | ⟨q, rfl, E, ce, L, hx, hce, hcv, hcl, hW₂, hsm, hL⟩
  · obtain ⟨⟨v, rfl⟩, hW₂, e2, q2, q3, q4, q5, q6⟩ := id hfe
    have e3 : s₂ = ({ (U.calling g mk a).setFrames s₂.frames with heap := s₂.heap, slotsUsed := s₂.slotsUsed } : State).setVm s₂.vm := by
      have : s₂ = ({ s₂ with vm := (U.calling g mk a).vm } : State).setVm s₂.vm := rfl
      rw [e2] at this
      exact this
    obtain ⟨c₂, i₂, len₂, hc₂, hd₂, hf₂⟩ := hend
    have hW' : U.WarmedH s₂.vm := hW₂
    have hcc : c₂ = c := by
      have h1 : s₂.code? g.method = U.code? g.method := by
        rw [State.code?_eq, State.code?_eq, hW'.alike.method?]
      exact Option.some.inj (hc₂.symm.trans (h1.trans h.code))
    subst hcc
    have hlen : len₂ = len := by rw [hdg] at hd₂; cases hd₂; rfl
    subst hlen
    have hs₂ : s₂ = (({ U with heap := s₂.heap, slotsUsed := s₂.slotsUsed } : State).setVm s₂.vm).setTop { g with pc := g.pc + len₂, stack := v.toList ++ g.stack } := by
      refine e3.trans ?_
      rw [hf₂, State.calling_eq h.top, State.setFrames_setFrames, State.setTop_of_frames _ hr', hr]
      rfl
    have hsame : U.sameButNew ({ U with heap := s₂.heap, slotsUsed := s₂.slotsUsed } : State) L mc ms := by
      refine ⟨?_, q2, q3, q4, q5, q6⟩
      obtain ⟨t, ht, -⟩ := State.frames_cons hr
      show ({ U with heap := s₂.heap, slotsUsed := s₂.slotsUsed } : State) = { U.setFrames U.frames with heap := s₂.heap, slotsUsed := s₂.slotsUsed }
      rw [State.setFrames_self ht]
    subst hg
    refine Or.inl ⟨v, ⟨(({ U with heap := s₂.heap, slotsUsed := s₂.slotsUsed } : State).setVm s₂.vm), Ls ++ L, c0 + mc, s0 + ms⟩,
      ⟨X.admits, X.cas, X.clock, X.frames, X.room, X.hears, X.method, X.code, (X.here.setHeapUsed s₂.heap s₂.slotsUsed).setVm hW'.alike, X.tail, State.WarmedH.trans X.warmed hW', X.limits, X.bytes, X.same.trans (hsame.setVm s.vm)⟩,
      ⟨g, mk, s₂, L, rfl, rfl, hqc, rfl, hL, rfl, rfl⟩, ?_⟩
    show Steps p.tables e below _ ((({ U with heap := s₂.heap, slotsUsed := s₂.slotsUsed } : State).setVm s₂.vm).setTop { g with pc := g.pc + len₂, stack := v.toList ++ g.stack })
    rw [← hs₂]
    exact hsteps
  · obtain ⟨e2, q2, q3, q4, q5, q6⟩ := id hsm
    have e3 : s₂ = ({ (U.calling g mk a).setFrames s₂.frames with heap := s₂.heap, slotsUsed := s₂.slotsUsed } : State).setVm s₂.vm := by
      have : s₂ = ({ s₂ with vm := (U.calling g mk a).vm } : State).setVm s₂.vm := rfl
      rw [e2] at this
      exact this
    have hf₂ : s₂.frames = .throwing q :: .java g :: U.frames.tail := hend
    have hW' : U.WarmedH s₂.vm := hW₂
    have hs₂ : s₂ = ((({ U with heap := s₂.heap, slotsUsed := s₂.slotsUsed } : State).setVm s₂.vm).setTop g).pushFrame (.throwing q) := by
      refine e3.trans ?_
      rw [hf₂, State.calling_eq h.top, State.setFrames_setFrames, State.pushFrame, State.frames_setTop _ hr', State.setTop_of_frames _ hr', State.setFrames_setFrames, hr]
      rfl
    have hsame : U.sameButNew ({ U with heap := s₂.heap, slotsUsed := s₂.slotsUsed } : State) L mc ms := by
      refine ⟨?_, q2, q3, q4, q5, q6⟩
      obtain ⟨t, ht, -⟩ := State.frames_cons hr
      show ({ U with heap := s₂.heap, slotsUsed := s₂.slotsUsed } : State) = { U.setFrames U.frames with heap := s₂.heap, slotsUsed := s₂.slotsUsed }
      rw [State.setFrames_self ht]
    subst hg
    refine Or.inr ⟨q, ⟨(({ U with heap := s₂.heap, slotsUsed := s₂.slotsUsed } : State).setVm s₂.vm), Ls ++ L, c0 + mc, s0 + ms⟩,
      ⟨X.admits, X.cas, X.clock, X.frames, X.room, X.hears, X.method, X.code, (X.here.setHeapUsed s₂.heap s₂.slotsUsed).setVm hW'.alike, X.tail, State.WarmedH.trans X.warmed hW', X.limits, X.bytes, X.same.trans (hsame.setVm s.vm)⟩,
      ⟨g, mk, s₂, L, E, ce, rfl, rfl, hx, hce, hcv, hcl, rfl, hL, rfl, rfl⟩, ?_⟩
    show Steps p.tables e below _ (((({ U with heap := s₂.heap, slotsUsed := s₂.slotsUsed } : State).setVm s₂.vm).setTop g).pushFrame (.throwing q))
    rw [← hs₂]
    exact hsteps
end Payer
section Calls
variable {p : Program} {l : Launch} {e : Env} {R : Room} {s : State} {m : MethodId} {args : Array Value} {below : List Frame} {meth : Method} {c : Code} {T : State} {locs : List Loc} {cells slots : Nat}
theorem vx_callV (X : Stand p l e R s m args below meth c T locs cells slots) (hexec : p.tables.exec = Jvm.exec) {own C : String} {index : Nat} {y : MethodName} {bytes : ByteArray} {maxL : Nat} {ret : Option FieldType}
    (hown : s.vm.findClass own = some m.cls) (hlink : (Cond.methodLink own index y).before args s = true) (hinst : (Cond.instanceMethod y).before args s = true) (hsel : (Cond.selects C y y).before args s = true)
    (hcode : (Cond.code y bytes maxL ret).before args s = true) (hy : y.cls ≠ "java/lang/invoke/MethodHandle" ∧ y.cls ≠ "java/lang/invoke/VarHandle")
    {W9 : Nat} {Pre : Pt → Array Value → Prop} {Post : Pt → Array Value → Option Value → Pt → Prop} {PostX : Pt → Array Value → Addr → Pt → Prop} (hK : vx_Back l R p e below s args y 3 W9 Pre Post PostX)
    {b : Addr} {cellB : Cell} (hcell : T.heap[b]? = some cellB) (hobj : cellB.vm.isStatics = false) (hcls : s.vm.findClass C = some cellB.cls)
    {g : JFrame} (hg : g.method = m) (hsize : g.locals.size = c.maxLocals) {argsL rest : List Value} (hlen : ∀ sig, parseMethodDescriptor y.desc = some sig → argsL.length = sig.parameters.length)
    (hstack : g.stack = argsL.reverse ++ .ref b :: rest) (hW : 2 * g.monitorRoom + (rest.map fun v => v.category).sum ≤ W9) (hdg : decode c.code g.pc = .ok (.invokevirtual index, 3))
    (hpre : ∀ vm₁, s.WarmedH vm₁ → Pre ⟨T.setVm vm₁, locs, cells, slots⟩ (Value.ref b :: argsL).toArray) :
    (∃ (v : Option Value) (vm₁ : Vm) (B : Pt), s.WarmedH vm₁ ∧ Stand p l e R s m args below meth c B.U B.locs B.cells B.slots ∧ Post ⟨T.setVm vm₁, locs, cells, slots⟩ (Value.ref b :: argsL).toArray v B ∧
      ∀ target, Steps p.tables e below (B.U.setTop { g with pc := g.pc + 3, stack := v.toList ++ rest }) target → Steps p.tables e below (T.setTop g) target) ∨
    (∃ (q : Addr) (vm₁ : Vm) (B : Pt), s.WarmedH vm₁ ∧ Stand p l e R s m args below meth c B.U B.locs B.cells B.slots ∧ PostX ⟨T.setVm vm₁, locs, cells, slots⟩ (Value.ref b :: argsL).toArray q B ∧
      Steps p.tables e below (T.setTop g) ((B.U.setTop { g with stack := rest }).pushFrame (.throwing q))) := by
  obtain ⟨mk, methM, hnamed, hmethM, hstM, habM⟩ := Cond.instanceMethod_spec hinst
  obtain ⟨methM', cM, hmethM', -, -, -, -, -, -, hsigM⟩ := Cond.code_spec hnamed hcode
  cases hmethM.symm.trans hmethM'
  obtain ⟨c2, r2, m2, q1, q2, q3, q4, kP, hkP, hkPi⟩ := Cond.selects_spec hsel
  cases hcls.symm.trans q1
  cases (State.methodFound?_of_named hnamed hy).symm.trans q2
  cases hnamed.symm.trans q3
  have hselP : selectMethod e.platform s.vm cellB.cls mk = .method mk := by rw [Launch.admits_selectMethod X.admits]; exact q4
  obtain ⟨vm₁, X₁, hstep₁⟩ := X.invokevirtual hexec hown hlink hnamed hmethM hstM hkP hkPi hy (a := b) (cell := cellB) hcell
    (fun z h => by rw [h] at hobj; cases hobj) hselP hmethM habM hkP hkPi (g := g) hg (argsL := argsL) (rest := rest) (hlen _ hsigM) hstack hdg
  rcases hK m meth c ⟨T.setVm vm₁, locs, cells, slots⟩ { g with stack := rest } (.invokevirtual index) mk (Value.ref b :: argsL).toArray X₁ hg hsize hdg hW (X₁.named hnamed) (hpre vm₁ X₁.warmed) with ⟨v, B, X', hpost, hsteps⟩ | ⟨q, B, X', hpost, hsteps⟩
  · exact Or.inl ⟨v, vm₁, B, X₁.warmed, X', hpost, fun target h => hstep₁ _ fun acts => by rw [doInvoke_state]; exact hsteps.trans h⟩
  · exact Or.inr ⟨q, vm₁, B, X₁.warmed, X', hpost, hstep₁ _ fun acts => by rw [doInvoke_state]; exact hsteps⟩
theorem vx_callS (X : Stand p l e R s m args below meth c T locs cells slots) (hexec : p.tables.exec = Jvm.exec) {own : String} {index : Nat} {y : MethodName} {bytes : ByteArray} {maxL : Nat} {ret : Option FieldType}
    (hown : s.vm.findClass own = some m.cls) (hlink : (Cond.methodLink own index y).before args s = true) (hstat : (Cond.static y).before args s = true) (hinit : (Cond.initialized y.cls).before args s = true)
    (hcode : (Cond.code y bytes maxL ret).before args s = true) (hy : y.cls ≠ "java/lang/invoke/MethodHandle" ∧ y.cls ≠ "java/lang/invoke/VarHandle")
    {W9 : Nat} {Pre : Pt → Array Value → Prop} {Post : Pt → Array Value → Option Value → Pt → Prop} {PostX : Pt → Array Value → Addr → Pt → Prop} (hK : vx_Back l R p e below s args y 3 W9 Pre Post PostX)
    {g : JFrame} (hg : g.method = m) (hsize : g.locals.size = c.maxLocals) {argsL rest : List Value} (hlen : ∀ sig, parseMethodDescriptor y.desc = some sig → argsL.length = sig.parameters.length)
    (hstack : g.stack = argsL.reverse ++ rest) (hW : 2 * g.monitorRoom + (rest.map fun v => v.category).sum ≤ W9) (hdg : decode c.code g.pc = .ok (.invokestatic index, 3))
    (hpre : ∀ vm₁, s.WarmedH vm₁ → Pre ⟨T.setVm vm₁, locs, cells, slots⟩ argsL.toArray) :
    (∃ (v : Option Value) (vm₁ : Vm) (B : Pt), s.WarmedH vm₁ ∧ Stand p l e R s m args below meth c B.U B.locs B.cells B.slots ∧ Post ⟨T.setVm vm₁, locs, cells, slots⟩ argsL.toArray v B ∧
      ∀ target, Steps p.tables e below (B.U.setTop { g with pc := g.pc + 3, stack := v.toList ++ rest }) target → Steps p.tables e below (T.setTop g) target) ∨
    (∃ (q : Addr) (vm₁ : Vm) (B : Pt), s.WarmedH vm₁ ∧ Stand p l e R s m args below meth c B.U B.locs B.cells B.slots ∧ PostX ⟨T.setVm vm₁, locs, cells, slots⟩ argsL.toArray q B ∧
      Steps p.tables e below (T.setTop g) ((B.U.setTop { g with stack := rest }).pushFrame (.throwing q))) := by
  obtain ⟨mk, hnamed⟩ := Cond.code_named hcode
  obtain ⟨methM, cM, hmethM, -, -, -, -, -, -, hsigM⟩ := Cond.code_spec hnamed hcode
  have hstatic : methM.isStatic = true := Cond.static_spec hnamed hmethM hstat
  obtain ⟨kP, hkP, -⟩ := className_of_methodNamed hnamed
  have hinitP : kP.init = .initialized := Cond.initialized_spec (findClass_of_methodNamed hnamed) hkP hinit
  obtain ⟨vm₁, X₁, hstep₁⟩ := X.invokestatic hexec hown hlink hnamed hmethM hstatic hkP hinitP hy (g := g) hg (argsL := argsL) (rest := rest) (hlen _ hsigM) hstack hdg
  rcases hK m meth c ⟨T.setVm vm₁, locs, cells, slots⟩ { g with stack := rest } (.invokestatic index) mk argsL.toArray X₁ hg hsize hdg hW (X₁.named hnamed) (hpre vm₁ X₁.warmed) with ⟨v, B, X', hpost, hsteps⟩ | ⟨q, B, X', hpost, hsteps⟩
  · exact Or.inl ⟨v, vm₁, B, X₁.warmed, X', hpost, fun target h => hstep₁ _ fun acts => by rw [doInvoke_state]; exact hsteps.trans h⟩
  · exact Or.inr ⟨q, vm₁, B, X₁.warmed, X', hpost, hstep₁ _ fun acts => by rw [doInvoke_state]; exact hsteps⟩
end Calls
theorem vx_cls {s : State} {T : State} {vm₁ : Vm} {E : String} {k : ClassId} (hW : s.WarmedH vm₁) (h : (T.setVm vm₁).vm.findClass E = some k) : s.vm.findClass E = some k := by
  have h1 : vm₁.findClass E = some k := h
  rw [hW.alike.findClass] at h1
  exact h1
/-- the method's frame g, with q thrown over it -/
def vx_W (p : Program) (l : Launch) (e : Env) (R : Room) (s : State) (m : MethodId) (args : Array Value) (below : List Frame) (meth : Method) (c : Code) (H : Heap) (locs : List Loc) (cells slots : Nat) (Q : State → Prop) (g : JFrame) (q : Addr) : Prop :=
  ∀ T : State, T.heap = H → Stand p l e R s m args below meth c T locs cells slots → ∃ t, Steps p.tables e below ((T.setTop g).pushFrame (.throwing q)) t ∧ Q t
def vx_Run (p : Program) (l : Launch) (e : Env) (R : Room) (s : State) (m : MethodId) (args : Array Value) (below : List Frame) (meth : Method) (c : Code) (H : Heap) (locs : List Loc) (cells slots mc ms : Nat) (g : JFrame) (rest : List Value) (Qa : State → Outcome → State → Prop) (XC : String → State → State → Prop) (free : Addr → Prop) : Prop :=
  ∀ T : State, T.heap = H → Stand p l e R s m args below meth c T locs cells slots →
    (∃ (v : Option Value) (st₀ t T' : State) (L : List Loc), st₀.heap = H ∧ Stand p l e R s m args below meth c T' (locs ++ L) (cells + mc) (slots + ms) ∧ (∀ q ∈ L, free q.base) ∧ T'.heap = t.heap ∧ T'.vm = t.vm ∧ Qa st₀ (.returned v) t ∧
      Goes p e below T g T' { g with pc := g.pc + 3, stack := v.toList ++ rest }) ∨
    (∃ (q : Addr) (st₀ t T' : State) (L : List Loc) (E : String) (ce : Cell), st₀.heap = H ∧ Stand p l e R s m args below meth c T' (locs ++ L) (cells + mc) (slots + ms) ∧ (∀ z ∈ L, free z.base) ∧ T'.heap = t.heap ∧ T'.vm = t.vm ∧ XC E st₀ t ∧ t.heap[q]? = some ce ∧ ce.vm = .none ∧ s.vm.findClass E = some ce.cls ∧
      Steps p.tables e below (T.setTop g) ((T'.setTop { g with stack := rest }).pushFrame (.throwing q)))
def vx_X {S : Type} (px : S → Prop) (B : String → S → State → Prop) (A : Nat → Prop) : String → State → State → Prop := fun E st t => ∃ u : S, px u ∧ B E u t ∧ va_F A st t
section Runs
variable {p : Program} {l : Launch} {e : Env} {R : Room} {s : State} {m : MethodId} {args : Array Value} {below : List Frame} {meth : Method} {c : Code} {H : Heap} {locs : List Loc} {cells slots : Nat}
variable {y : MethodName} {bytes cc : ByteArray} {maxL nL mc ms n index : Nat} {ret : Option FieldType} {ws : List Cond} {rm : Room} {Pc : Array Value → State → Prop} {Qc : Array Value → State → Outcome → State → Prop} {XC : String → State → State → Prop} {free : Addr → Prop} {Ts : List Cond} {own C : String} {b : Addr} {As rest : List Value} {g : JFrame}
theorem vx_callBack (cb : CallB R s args own index y bytes maxL ret ws rm mc ms n) (hM : vx_Met l y ws rm Pc Qc XC mc ms free) (hbl : FrameBlind Pc) : vx_Back l R p e below s args y 3 8 (PreOf R mc ms Pc) (PostOf Qc mc ms free) (vx_Post XC mc ms free) := by
  obtain ⟨hrc, hrs, hfr, hlo, hws, hcw, -, hini, -⟩ := cb
  exact vx_back (bytes := bytes) (maxL := maxL) (ret := ret) hM hbl hrc hrs hfr hlo hws hcw (fun a' U hW => word_at hW (Or.inl (by first | rfl | simp [Cond.onTables, Cond.keeps, Cond.steady])) hini)
theorem vx_runV (S : CallFix p m c cc nL s args Ts own) (hM : vx_Met l y ws rm Pc Qc XC mc ms free) (cw : CallW R s args own C index y bytes maxL ret ws rm mc ms n) (hp : PreV s H C b Pc As)
    (hg : g.method = m) (hn : As.length = n) (hsize : g.locals.size = nL) (hstack : g.stack = As.reverse ++ .ref b :: rest) (hW : 2 * g.monitorRoom + (rest.map fun v => v.category).sum ≤ 8) (hdg : decode cc g.pc = .ok (.invokevirtual index, 3)) (hf : cells + mc ≤ R.cells ∧ slots + ms ≤ R.slots) :
    vx_Run p l e R s m args below meth c H locs cells slots mc ms g rest (Qc (Value.ref b :: As).toArray) XC free := by
  have hK : vx_Back l R p e below s args y 3 8 (PreOf R mc ms Pc) (PostOf Qc mc ms free) (vx_Post XC mc ms free) := vx_callBack cw.1 hM hp.1
  obtain ⟨⟨-, -, -, -, -, -, hcode, -, hy, hlen, hl⟩, hin, hse⟩ := cw
  obtain ⟨hx, hb, hml, ho, -⟩ := S
  obtain ⟨-, ⟨cellB, hcB, hoB, hclB⟩, hPc⟩ := hp
  intro T hT X
  rcases vx_callV X hx (C := C) (bytes := bytes) (maxL := maxL) (ret := ret) ho hl hin hse hcode hy hK (by rw [hT]; exact hcB) hoB hclB hg (hsize.trans hml.symm) (argsL := As) (rest := rest) (fun sig h => hn.trans (hlen sig h)) hstack hW (by rw [hb]; exact hdg)
    (fun vm₁ hW₁ => ⟨hf.1, hf.2, hPc (T.setVm vm₁) hT hW₁⟩) with ⟨v, vm₁, ⟨U', l2, c2, s2⟩, hW₁, X', ⟨g', mk, t, L, e1, e2, hq, h1, hL, h2, h3⟩, st⟩ | ⟨q, vm₁, ⟨U', l2, c2, s2⟩, hW₁, X', ⟨g', mk, t, L, E, ce, e1, e2, hq, hce, hcv, hcl, h1, hL, h2, h3⟩, st⟩
  · dsimp only [Pt.U, Pt.locs, Pt.cells, Pt.slots] at X' e1 e2 h1 h2 h3 st
    subst h1; subst h2; subst h3
    exact Or.inl ⟨v, (T.setVm vm₁).calling g' mk (Value.ref b :: As).toArray, t, U', L, hT, X', hL, e1, e2, hq, st⟩
  · dsimp only [Pt.U, Pt.locs, Pt.cells, Pt.slots] at X' e1 e2 h1 h2 h3 st hcl
    subst h1; subst h2; subst h3
    exact Or.inr ⟨q, (T.setVm vm₁).calling g' mk (Value.ref b :: As).toArray, t, U', L, E, ce, hT, X', hL, e1, e2, hq, hce, hcv, vx_cls hW₁ hcl, st⟩
theorem vx_runS (S : CallFix p m c cc nL s args Ts own) (hM : vx_Met l y ws rm Pc Qc XC mc ms free) (cw : CallB R s args own index y bytes maxL ret ws rm mc ms n ∧ (Cond.static y).before args s = true) (hp : PreS s H Pc As)
    (hg : g.method = m) (hn : As.length = n) (hsize : g.locals.size = nL) (hstack : g.stack = As.reverse ++ rest) (hW : 2 * g.monitorRoom + (rest.map fun v => v.category).sum ≤ 8) (hdg : decode cc g.pc = .ok (.invokestatic index, 3)) (hf : cells + mc ≤ R.cells ∧ slots + ms ≤ R.slots) :
    vx_Run p l e R s m args below meth c H locs cells slots mc ms g rest (Qc As.toArray) XC free := by
  have hK : vx_Back l R p e below s args y 3 8 (PreOf R mc ms Pc) (PostOf Qc mc ms free) (vx_Post XC mc ms free) := vx_callBack cw.1 hM hp.1
  obtain ⟨⟨-, -, -, -, -, -, hcode, hini, hy, hlen, hl⟩, hstt⟩ := cw
  obtain ⟨hx, hb, hml, ho, -⟩ := S
  intro T hT X
  rcases vx_callS X hx (bytes := bytes) (maxL := maxL) (ret := ret) ho hl hstt hini hcode hy hK hg (hsize.trans hml.symm) (argsL := As) (rest := rest) (fun sig h => hn.trans (hlen sig h)) hstack hW (by rw [hb]; exact hdg)
    (fun vm₁ hW₁ => ⟨hf.1, hf.2, hp.2 (T.setVm vm₁) hT hW₁⟩) with ⟨v, vm₁, ⟨U', l2, c2, s2⟩, hW₁, X', ⟨g', mk, t, L, e1, e2, hq, h1, hL, h2, h3⟩, st⟩ | ⟨q, vm₁, ⟨U', l2, c2, s2⟩, hW₁, X', ⟨g', mk, t, L, E, ce, e1, e2, hq, hce, hcv, hcl, h1, hL, h2, h3⟩, st⟩
  · dsimp only [Pt.U, Pt.locs, Pt.cells, Pt.slots] at X' e1 e2 h1 h2 h3 st
    subst h1; subst h2; subst h3
    exact Or.inl ⟨v, (T.setVm vm₁).calling g' mk As.toArray, t, U', L, hT, X', hL, e1, e2, hq, st⟩
  · dsimp only [Pt.U, Pt.locs, Pt.cells, Pt.slots] at X' e1 e2 h1 h2 h3 st hcl
    subst h1; subst h2; subst h3
    exact Or.inr ⟨q, (T.setVm vm₁).calling g' mk As.toArray, t, U', L, E, ce, hT, X', hL, e1, e2, hq, hce, hcv, vx_cls hW₁ hcl, st⟩
end Runs
section Rows
variable {p : Program} {l : Launch} {e : Env} {R : Room} {s : State} {m : MethodId} {args : Array Value} {below : List Frame} {meth : Method} {c : Code} {H : Heap} {locs : List Loc} {cells slots : Nat} {Q : State → Prop}
variable {mc ms : Nat} {free : Addr → Prop} {A0 A1 : Nat → Prop} {H0 : Heap} {a : Array Value} {pc : Nat} {ls : Array Slot} {st0 rest : List Value}
theorem vx_keep {st₀ t T' : State} {L : List Loc} (h0 : st₀.heap = H) (e1 : T'.heap = t.heap) (hS : va_S A0 H0 H locs) (hA : ∀ q, q < H.size → A1 q → A0 q) (hf : ∀ q, free q → A0 q) (hL : ∀ q ∈ L, free q.base) (hF : va_F A1 st₀ t) :
    H.size ≤ T'.heap.size ∧ (∀ q : Nat, q < H.size → ¬ A1 q → T'.heap[q]? = H[q]?) ∧ va_S A0 H0 T'.heap (locs ++ L) := by
  obtain ⟨hz, hk⟩ := hF
  rw [h0] at hz hk
  exact ⟨by rw [e1]; exact hz, fun q h1 h2 => by rw [e1]; exact hk q h1 h2,
    ⟨Nat.le_trans hS.1 (by rw [e1]; exact hz), fun q h1 h2 => by rw [e1, hk q (Nat.lt_of_lt_of_le h1 hS.1) (fun z => h2 (hA q (Nat.lt_of_lt_of_le h1 hS.1) z))]; exact hS.2.1 q h1 h2, fun q hq => by
      rcases List.mem_append.mp hq with h | h
      · exact hS.2.2 q h
      · exact hf _ (hL q h)⟩⟩
theorem vx_calli {S SX : Type} {post : Int32 → S → Prop} {px : SX → Prop} {B : S → State → Prop} {BX : String → SX → State → Prop} {AX : Nat → Prop} (hr : vx_Run p l e R s m args below meth c H locs cells slots mc ms (F0 m pc ls st0) rest (va_Qi post B A1 a) (vx_X px BX AX) free) (hS : va_S A0 H0 H locs) (hA : ∀ q, q < H.size → A1 q → A0 q) (hf : ∀ q, free q → A0 q) (hAX : ∀ q, q < H.size → AX q → A0 q)
    (kx : ∀ (E : String) (ce : Cell) (q9 : Addr) (u : SX) (t : State) (H1 : Heap) (locs1 : List Loc), t.heap = H1 → s.vm.Alike t.vm → px u → BX E u t → H.size ≤ H1.size → (∀ q : Nat, q < H.size → ¬ AX q → H1[q]? = H[q]?) → va_S A0 H0 H1 locs1 → H1[q9]? = some ce → ce.vm = .none → s.vm.findClass E = some ce.cls → vx_W p l e R s m args below meth c H1 locs1 (cells + mc) (slots + ms) Q (F0 m pc ls rest) q9)
    (kk : ∀ (r : Int32) (u : S) (t : State) (H1 : Heap) (locs1 : List Loc), t.heap = H1 → s.vm.Alike t.vm → post r u → B u t → H.size ≤ H1.size → (∀ q : Nat, q < H.size → ¬ A1 q → H1[q]? = H[q]?) → va_S A0 H0 H1 locs1 → W p l e R s m args below meth c H1 locs1 (cells + mc) (slots + ms) Q (F0 m (pc + 3) ls (.int r :: rest))) : W p l e R s m args below meth c H locs cells slots Q (F0 m pc ls st0) := by
  intro T hT X
  rcases hr T hT X with ⟨v, st₀, t, T', L, h0, X', hL, e1, e2, ⟨⟨r, u, hv, hp, hb⟩, hF⟩, st⟩ | ⟨q, st₀, t, T', L, E, ce, h0, X', hL, e1, e2, ⟨u, hp, hb, hF⟩, hce, hcv, hcl, st⟩
  · cases hv
    obtain ⟨k1, k2, k3⟩ := vx_keep h0 e1 hS hA hf hL hF
    obtain ⟨t2, a1, b1⟩ := kk r u t T'.heap (locs ++ L) e1.symm (by rw [← e2]; exact X'.warmed.alike) hp hb k1 k2 k3 T' rfl X'
    exact ⟨t2, st t2 a1, b1⟩
  · obtain ⟨k1, k2, k3⟩ := vx_keep h0 e1 hS hAX hf hL hF
    obtain ⟨t2, a1, b1⟩ := kx E ce q u t T'.heap (locs ++ L) e1.symm (by rw [← e2]; exact X'.warmed.alike) hp hb k1 k2 k3 (by rw [e1]; exact hce) hcv hcl T' rfl X'
    exact ⟨t2, st.trans a1, b1⟩
theorem vx_calll {S SX : Type} {post : Int64 → S → Prop} {px : SX → Prop} {B : S → State → Prop} {BX : String → SX → State → Prop} {AX : Nat → Prop} (hr : vx_Run p l e R s m args below meth c H locs cells slots mc ms (F0 m pc ls st0) rest (va_Ql post B A1 a) (vx_X px BX AX) free) (hS : va_S A0 H0 H locs) (hA : ∀ q, q < H.size → A1 q → A0 q) (hf : ∀ q, free q → A0 q) (hAX : ∀ q, q < H.size → AX q → A0 q)
    (kx : ∀ (E : String) (ce : Cell) (q9 : Addr) (u : SX) (t : State) (H1 : Heap) (locs1 : List Loc), t.heap = H1 → s.vm.Alike t.vm → px u → BX E u t → H.size ≤ H1.size → (∀ q : Nat, q < H.size → ¬ AX q → H1[q]? = H[q]?) → va_S A0 H0 H1 locs1 → H1[q9]? = some ce → ce.vm = .none → s.vm.findClass E = some ce.cls → vx_W p l e R s m args below meth c H1 locs1 (cells + mc) (slots + ms) Q (F0 m pc ls rest) q9)
    (kk : ∀ (r : Int64) (u : S) (t : State) (H1 : Heap) (locs1 : List Loc), t.heap = H1 → s.vm.Alike t.vm → post r u → B u t → H.size ≤ H1.size → (∀ q : Nat, q < H.size → ¬ A1 q → H1[q]? = H[q]?) → va_S A0 H0 H1 locs1 → W p l e R s m args below meth c H1 locs1 (cells + mc) (slots + ms) Q (F0 m (pc + 3) ls (.long r :: rest))) : W p l e R s m args below meth c H locs cells slots Q (F0 m pc ls st0) := by
  intro T hT X
  rcases hr T hT X with ⟨v, st₀, t, T', L, h0, X', hL, e1, e2, ⟨⟨r, u, hv, hp, hb⟩, hF⟩, st⟩ | ⟨q, st₀, t, T', L, E, ce, h0, X', hL, e1, e2, ⟨u, hp, hb, hF⟩, hce, hcv, hcl, st⟩
  · cases hv
    obtain ⟨k1, k2, k3⟩ := vx_keep h0 e1 hS hA hf hL hF
    obtain ⟨t2, a1, b1⟩ := kk r u t T'.heap (locs ++ L) e1.symm (by rw [← e2]; exact X'.warmed.alike) hp hb k1 k2 k3 T' rfl X'
    exact ⟨t2, st t2 a1, b1⟩
  · obtain ⟨k1, k2, k3⟩ := vx_keep h0 e1 hS hAX hf hL hF
    obtain ⟨t2, a1, b1⟩ := kx E ce q u t T'.heap (locs ++ L) e1.symm (by rw [← e2]; exact X'.warmed.alike) hp hb k1 k2 k3 (by rw [e1]; exact hce) hcv hcl T' rfl X'
    exact ⟨t2, st.trans a1, b1⟩
theorem vx_callf {S SX : Type} {post : UInt32 → S → Prop} {px : SX → Prop} {B : S → State → Prop} {BX : String → SX → State → Prop} {AX : Nat → Prop} (hr : vx_Run p l e R s m args below meth c H locs cells slots mc ms (F0 m pc ls st0) rest (va_Qf post B A1 a) (vx_X px BX AX) free) (hS : va_S A0 H0 H locs) (hA : ∀ q, q < H.size → A1 q → A0 q) (hf : ∀ q, free q → A0 q) (hAX : ∀ q, q < H.size → AX q → A0 q)
    (kx : ∀ (E : String) (ce : Cell) (q9 : Addr) (u : SX) (t : State) (H1 : Heap) (locs1 : List Loc), t.heap = H1 → s.vm.Alike t.vm → px u → BX E u t → H.size ≤ H1.size → (∀ q : Nat, q < H.size → ¬ AX q → H1[q]? = H[q]?) → va_S A0 H0 H1 locs1 → H1[q9]? = some ce → ce.vm = .none → s.vm.findClass E = some ce.cls → vx_W p l e R s m args below meth c H1 locs1 (cells + mc) (slots + ms) Q (F0 m pc ls rest) q9)
    (kk : ∀ (r : UInt32) (u : S) (t : State) (H1 : Heap) (locs1 : List Loc), t.heap = H1 → s.vm.Alike t.vm → post r u → B u t → H.size ≤ H1.size → (∀ q : Nat, q < H.size → ¬ A1 q → H1[q]? = H[q]?) → va_S A0 H0 H1 locs1 → W p l e R s m args below meth c H1 locs1 (cells + mc) (slots + ms) Q (F0 m (pc + 3) ls (.float r :: rest))) : W p l e R s m args below meth c H locs cells slots Q (F0 m pc ls st0) := by
  intro T hT X
  rcases hr T hT X with ⟨v, st₀, t, T', L, h0, X', hL, e1, e2, ⟨⟨r, u, hv, hp, hb⟩, hF⟩, st⟩ | ⟨q, st₀, t, T', L, E, ce, h0, X', hL, e1, e2, ⟨u, hp, hb, hF⟩, hce, hcv, hcl, st⟩
  · cases hv
    obtain ⟨k1, k2, k3⟩ := vx_keep h0 e1 hS hA hf hL hF
    obtain ⟨t2, a1, b1⟩ := kk r u t T'.heap (locs ++ L) e1.symm (by rw [← e2]; exact X'.warmed.alike) hp hb k1 k2 k3 T' rfl X'
    exact ⟨t2, st t2 a1, b1⟩
  · obtain ⟨k1, k2, k3⟩ := vx_keep h0 e1 hS hAX hf hL hF
    obtain ⟨t2, a1, b1⟩ := kx E ce q u t T'.heap (locs ++ L) e1.symm (by rw [← e2]; exact X'.warmed.alike) hp hb k1 k2 k3 (by rw [e1]; exact hce) hcv hcl T' rfl X'
    exact ⟨t2, st.trans a1, b1⟩
theorem vx_calld {S SX : Type} {post : UInt64 → S → Prop} {px : SX → Prop} {B : S → State → Prop} {BX : String → SX → State → Prop} {AX : Nat → Prop} (hr : vx_Run p l e R s m args below meth c H locs cells slots mc ms (F0 m pc ls st0) rest (va_Qd post B A1 a) (vx_X px BX AX) free) (hS : va_S A0 H0 H locs) (hA : ∀ q, q < H.size → A1 q → A0 q) (hf : ∀ q, free q → A0 q) (hAX : ∀ q, q < H.size → AX q → A0 q)
    (kx : ∀ (E : String) (ce : Cell) (q9 : Addr) (u : SX) (t : State) (H1 : Heap) (locs1 : List Loc), t.heap = H1 → s.vm.Alike t.vm → px u → BX E u t → H.size ≤ H1.size → (∀ q : Nat, q < H.size → ¬ AX q → H1[q]? = H[q]?) → va_S A0 H0 H1 locs1 → H1[q9]? = some ce → ce.vm = .none → s.vm.findClass E = some ce.cls → vx_W p l e R s m args below meth c H1 locs1 (cells + mc) (slots + ms) Q (F0 m pc ls rest) q9)
    (kk : ∀ (r : UInt64) (u : S) (t : State) (H1 : Heap) (locs1 : List Loc), t.heap = H1 → s.vm.Alike t.vm → post r u → B u t → H.size ≤ H1.size → (∀ q : Nat, q < H.size → ¬ A1 q → H1[q]? = H[q]?) → va_S A0 H0 H1 locs1 → W p l e R s m args below meth c H1 locs1 (cells + mc) (slots + ms) Q (F0 m (pc + 3) ls (.double r :: rest))) : W p l e R s m args below meth c H locs cells slots Q (F0 m pc ls st0) := by
  intro T hT X
  rcases hr T hT X with ⟨v, st₀, t, T', L, h0, X', hL, e1, e2, ⟨⟨r, u, hv, hp, hb⟩, hF⟩, st⟩ | ⟨q, st₀, t, T', L, E, ce, h0, X', hL, e1, e2, ⟨u, hp, hb, hF⟩, hce, hcv, hcl, st⟩
  · cases hv
    obtain ⟨k1, k2, k3⟩ := vx_keep h0 e1 hS hA hf hL hF
    obtain ⟨t2, a1, b1⟩ := kk r u t T'.heap (locs ++ L) e1.symm (by rw [← e2]; exact X'.warmed.alike) hp hb k1 k2 k3 T' rfl X'
    exact ⟨t2, st t2 a1, b1⟩
  · obtain ⟨k1, k2, k3⟩ := vx_keep h0 e1 hS hAX hf hL hF
    obtain ⟨t2, a1, b1⟩ := kx E ce q u t T'.heap (locs ++ L) e1.symm (by rw [← e2]; exact X'.warmed.alike) hp hb k1 k2 k3 (by rw [e1]; exact hce) hcv hcl T' rfl X'
    exact ⟨t2, st.trans a1, b1⟩
theorem vx_callv {S SX : Type} {post : S → Prop} {px : SX → Prop} {B : S → State → Prop} {BX : String → SX → State → Prop} {AX : Nat → Prop} (hr : vx_Run p l e R s m args below meth c H locs cells slots mc ms (F0 m pc ls st0) rest (va_Qv post B A1 a) (vx_X px BX AX) free) (hS : va_S A0 H0 H locs) (hA : ∀ q, q < H.size → A1 q → A0 q) (hf : ∀ q, free q → A0 q) (hAX : ∀ q, q < H.size → AX q → A0 q)
    (kx : ∀ (E : String) (ce : Cell) (q9 : Addr) (u : SX) (t : State) (H1 : Heap) (locs1 : List Loc), t.heap = H1 → s.vm.Alike t.vm → px u → BX E u t → H.size ≤ H1.size → (∀ q : Nat, q < H.size → ¬ AX q → H1[q]? = H[q]?) → va_S A0 H0 H1 locs1 → H1[q9]? = some ce → ce.vm = .none → s.vm.findClass E = some ce.cls → vx_W p l e R s m args below meth c H1 locs1 (cells + mc) (slots + ms) Q (F0 m pc ls rest) q9)
    (kk : ∀ (u : S) (t : State) (H1 : Heap) (locs1 : List Loc), t.heap = H1 → s.vm.Alike t.vm → post u → B u t → H.size ≤ H1.size → (∀ q : Nat, q < H.size → ¬ A1 q → H1[q]? = H[q]?) → va_S A0 H0 H1 locs1 → W p l e R s m args below meth c H1 locs1 (cells + mc) (slots + ms) Q (F0 m (pc + 3) ls (rest))) : W p l e R s m args below meth c H locs cells slots Q (F0 m pc ls st0) := by
  intro T hT X
  rcases hr T hT X with ⟨v, st₀, t, T', L, h0, X', hL, e1, e2, ⟨⟨u, hv, hp, hb⟩, hF⟩, st⟩ | ⟨q, st₀, t, T', L, E, ce, h0, X', hL, e1, e2, ⟨u, hp, hb, hF⟩, hce, hcv, hcl, st⟩
  · cases hv
    obtain ⟨k1, k2, k3⟩ := vx_keep h0 e1 hS hA hf hL hF
    obtain ⟨t2, a1, b1⟩ := kk u t T'.heap (locs ++ L) e1.symm (by rw [← e2]; exact X'.warmed.alike) hp hb k1 k2 k3 T' rfl X'
    exact ⟨t2, st t2 a1, b1⟩
  · obtain ⟨k1, k2, k3⟩ := vx_keep h0 e1 hS hAX hf hL hF
    obtain ⟨t2, a1, b1⟩ := kx E ce q u t T'.heap (locs ++ L) e1.symm (by rw [← e2]; exact X'.warmed.alike) hp hb k1 k2 k3 (by rw [e1]; exact hce) hcv hcl T' rfl X'
    exact ⟨t2, st.trans a1, b1⟩
/-- caught by the row x of this method's table; the rows ahead don't take it -/
theorem vx_catch {own name : String} {E : String} {ce : Cell} {q : Addr} (hown : s.vm.findClass own = some m.cls) (pre : List ExceptionTableEntry) (x : ExceptionTableEntry) (suf : List ExceptionTableEntry) (hsplit : c.exceptionTable.toList = pre ++ x :: suf)
    (hpass : ∀ z ∈ pre, covers z pc = false ∨ (z.catchType ≠ 0 ∧ ∃ nm : String, (Cond.classLink own z.catchType nm).before args s = true ∧ va_Nc E nm s)) (hx : covers x pc = true) (h0 : x.catchType ≠ 0)
    (hlink : (Cond.classLink own x.catchType name).before args s = true) (hcast : (Cond.castable E name).before args s = true) (hcell : H[q]? = some ce) (hv : ce.vm = .none) (hcl : s.vm.findClass E = some ce.cls)
    (kk : W p l e R s m args below meth c H locs cells slots Q (F0 m x.handlerPc ls [.ref q])) : vx_W p l e R s m args below meth c H locs cells slots Q (F0 m pc ls rest) q := by
  intro T hT X
  have hpl : e.platform.magicAccessors = ({} : Platform).magicAccessors := by rw [X.admits.platform]
  obtain ⟨c3, c4, hc3, hc4, hasg⟩ := Cond.castable_spec hcast
  cases Option.some.inj (hc3.symm.trans hcl)
  obtain ⟨c5, hc5, hcl5⟩ := Cond.classLink_spec hown hlink e.platform hpl
  cases Option.some.inj (hc4.symm.trans hc5)
  obtain ⟨vm', X', st⟩ := X.thenCaughtThrough q (g := F0 m pc ls rest) rfl (Steps.refl _) (by rw [hT]; exact hcell) (by rw [hv]; rfl) (by obtain ⟨k9, h9, -⟩ := Vm.findClass_spec hcl; exact ⟨k9, h9⟩) pre x suf hsplit
    (fun z hz => by
      rcases hpass z hz with h | ⟨hz0, nm, hl1, hn1⟩
      · exact Or.inl h
      · obtain ⟨c6, hc6, hcl6⟩ := Cond.classLink_spec hown hl1 e.platform hpl
        obtain ⟨a8, b8, h1, h2, h3⟩ := hn1
        cases Option.some.inj (h1.symm.trans hcl)
        cases Option.some.inj (h2.symm.trans hc6)
        exact Or.inr ⟨hz0, _, hcl6, h3⟩) hx (Or.inr ⟨h0, c4, hcl5, hasg⟩)
  obtain ⟨t, a1, b1⟩ := kk (T.setVm vm') hT X'
  exact ⟨t, st.trans a1, b1⟩
end Rows
section Ends
variable {p : Program} {l : Launch} {e : Env} {R : Room} {s : State} {m : MethodId} {args : Array Value} {below : List Frame} {meth : Method} {c : Code} {H : Heap} {locs : List Loc} {cells slots : Nat} {Q : State → Prop}
variable {mc ms : Nat} {free : Addr → Prop} {A0 A1 : Nat → Prop} {H0 : Heap} {a : Array Value} {ls : Array Slot} {st0 rest : List Value}
variable {Qc : Array Value → State → Outcome → State → Prop} {XC : String → State → State → Prop}
/-- what a body that may throw owes at its end -/
def vx_MQ (below : List Frame) (Qc : Array Value → State → Outcome → State → Prop) (XC : String → State → State → Prop) (a : Array Value) (s : State) (mc ms : Nat) (free : Addr → Prop) : State → Prop := fun t =>
  ∃ o, t.status = .running ∧ Ended t below o ∧ vx_Q Qc XC mc ms free a s o t
theorem vx_ret {g : JFrame} {mc ms : Nat} (k : W p l e R s m args below meth c H locs cells slots (MQ below Qc args s mc ms free) g) : W p l e R s m args below meth c H locs cells slots (vx_MQ below Qc XC args s mc ms free) g := by
  intro T hT X
  obtain ⟨t, a1, o, b1, b2, b3, b4⟩ := k T hT X
  exact ⟨t, a1, o, b1, b2, Or.inl ⟨b3, b4⟩⟩
/-- not caught here: it goes on to the caller -/
theorem vx_widen {g : JFrame} {q : Addr} {k n : Nat} (h1 : cells ≤ k) (h2 : slots ≤ n) (kk : vx_W p l e R s m args below meth c H locs k n Q g q) : vx_W p l e R s m args below meth c H locs cells slots Q g q := fun T hT X => kk T hT (stand_widen X h1 h2)
theorem vx_out {pc : Nat} {E : String} {ce : Cell} {q : Addr} {mc ms : Nat} (hout : ∀ x ∈ c.exceptionTable.toList, covers x pc = false) (hlocks : meth.locks = false) (hcell : H[q]? = some ce) (hv : ce.vm = .none) (hcl : s.vm.findClass E = some ce.cls)
    (hx : ∀ t : State, t.heap = H → s.vm.Alike t.vm → XC E s t) (hf : ∀ z ∈ locs, free z.base) (hc : cells ≤ mc) (hs : slots ≤ ms) :
    vx_W p l e R s m args below meth c H locs cells slots (vx_MQ below Qc XC args s mc ms free) (F0 m pc ls rest) q := by
  intro T hT X
  obtain ⟨st1, hrun, hend, hW, hsm⟩ := X.leaveThrown q (g := F0 m pc ls rest) rfl rfl rfl hout hlocks
  have hcell9 : (T.setFrames (.throwing q :: below)).heap[q]? = some ce := by
    show T.heap[q]? = some ce
    rw [hT]; exact hcell
  exact ⟨_, st1, .threw q, hrun, hend, Or.inr ⟨q, rfl, E, ce, locs, hx _ hT hW.alike, hcell9, hv, hcl, hW, hsm.mono hc hs, hf⟩⟩
theorem vx_frame {U : State} {k n : Nat} (h : s.sameButNew ({ U with vm := s.vm } : State) locs k n) : s.heap.size ≤ U.heap.size ∧ ∀ q : Nat, q < s.heap.size → (∀ z ∈ locs, z.base ≠ q) → U.heap[q]? = s.heap[q]? := by
  obtain ⟨-, h2, -, -, -, h6⟩ := h
  refine ⟨h2, fun q hq hz => ?_⟩
  obtain ⟨c9, e1, e2, e3, e4⟩ := h6 q _ (Array.getElem?_eq_getElem hq)
  have hs : c9.slots = (s.heap[q]).slots := Array.ext_getElem? fun i => e4 i fun hm => hz _ hm rfl
  have h9 : c9 = s.heap[q] := by
    rw [hs] at e2
    exact e2
  have e5 : U.heap[q]? = some c9 := e1
  rw [e5, h9, Array.getElem?_eq_getElem hq]
/-- the words of a throw but the four that speak of the heap -/
def vx_no (w : Cond) : Bool := decide (w ≠ .isRef (.static Bundle.tN "UNASSIGNED_STACK" Bundle.steD)) && decide (w ≠ .isRef (.static Bundle.tN "SUPPRESSED_SENTINEL" Bundle.listD)) && decide (w ≠ .laysStatic Bundle.tN "UNASSIGNED_STACK" Bundle.steD) && decide (w ≠ .laysStatic Bundle.tN "SUPPRESSED_SENTINEL" Bundle.listD)
def vx_at0 (own : String) (ic : Nat) (X : String) (names : List String) : List Cond := (Bundle.ownAtoms0 own ic X names).filter vx_no
def vx_atS (own : String) (ic : Nat) (X : String) (names : List String) : List Cond := (Bundle.ownAtoms own ic X names).filter vx_no
/-- a word that the tables alone decide, or a good one -/
def vx_ot (w : Cond) : Bool := w.onTables || goodWord w
theorem vx_ot_at {args a' : Array Value} {s U : State} {w : Cond} (hW : s.WarmedH U.vm) (hvm : s.vm = U.vm) (hg : vx_ot w = true) (h : w.before args s = true) : w.before a' U = true := by
  simp only [vx_ot, Bool.or_eq_true] at hg
  rcases hg with hg | hg
  · exact va_tabs hg hvm h
  · exact word_at hW (good_of_word hg) h
/-- a list's words: the good ones out of the method's own list, the others by premises of their own -/
theorem vx_hat {args : Array Value} {s : State} {L B : List Cond} (h1 : ∀ w ∈ L.filter goodWord, w.before args s = true) (h2 : ∀ w ∈ L.filter (fun w => !goodWord w), w ∈ B) (h3 : ∀ w ∈ B, w.before args s = true) : ∀ w ∈ L, w.before args s = true := by
  intro w hw
  by_cases g : goodWord w = true
  · exact h1 w (List.mem_filter.mpr ⟨hw, g⟩)
  · refine h3 w (h2 w (List.mem_filter.mpr ⟨hw, ?_⟩))
    show (!goodWord w) = true
    cases hgw : goodWord w
    · rfl
    · exact absurd hgw g
theorem vx_c {args : Array Value} {s : State} {w : Cond} {B : List Cond} (h : w.before args s = true) (t : ∀ w ∈ B, w.before args s = true) : ∀ w' ∈ w :: B, w'.before args s = true := fun w' h' => (List.mem_cons.mp h').elim (fun e => by rw [e]; exact h) (t w')
theorem vx_n {args : Array Value} {s : State} : ∀ w ∈ ([] : List Cond), w.before args s = true := fun _ h => nomatch h
theorem vx_own {args : Array Value} {s : State} {L : List Cond} (h1 : ∀ w ∈ L.filter vx_no, w.before args s = true)
    (hU : (Cond.isRef (.static Bundle.tN "UNASSIGNED_STACK" Bundle.steD)).before args s = true) (hN : (Cond.isRef (.static Bundle.tN "SUPPRESSED_SENTINEL" Bundle.listD)).before args s = true)
    (lU : (Cond.laysStatic Bundle.tN "UNASSIGNED_STACK" Bundle.steD).before args s = true) (lN : (Cond.laysStatic Bundle.tN "SUPPRESSED_SENTINEL" Bundle.listD).before args s = true) : ∀ w ∈ L, w.before args s = true := by
  intro w hw
  by_cases e1 : w = .isRef (.static Bundle.tN "UNASSIGNED_STACK" Bundle.steD)
  · rw [e1]; exact hU
  · by_cases e2 : w = .isRef (.static Bundle.tN "SUPPRESSED_SENTINEL" Bundle.listD)
    · rw [e2]; exact hN
    · by_cases e3 : w = .laysStatic Bundle.tN "UNASSIGNED_STACK" Bundle.steD
      · rw [e3]; exact lU
      · by_cases e4 : w = .laysStatic Bundle.tN "SUPPRESSED_SENTINEL" Bundle.listD
        · rw [e4]; exact lN
        · exact h1 w (List.mem_filter.mpr ⟨hw, by unfold vx_no; rw [decide_eq_true e1, decide_eq_true e2, decide_eq_true e3, decide_eq_true e4]; rfl⟩)
/-- where a static field lies, its class's statics cell in H -/
def vx_L (C n d : String) (A : Nat → Prop) (U : State) (H : Heap) : Prop := ∃ (c : ClassId) (k : Class) (i : Nat) (f : Field) (a : Nat) (cell : Cell), U.vm.findClass C = some c ∧ U.fieldFound? C n d = some (c, k, i, f) ∧ f.isStatic = true ∧ k.statics = some a ∧ H[a]? = some cell ∧ cell.vm.isStatics = true ∧ cell.cls = c ∧ f.slot < cell.slots.size ∧ k.staticTypes[f.slot]? = some f.type ∧ ¬ A a
theorem vx_L.moved {C n d : String} {A : Nat → Prop} {u U : State} {H : Heap} (hvm : u.vm.Alike U.vm) (h : vx_L C n d A u H) : vx_L C n d A U H := by
  obtain ⟨c, k, i, f, a, cell, h1, h2, h3, h4, h5, h6, h7, h8, h9, h10⟩ := h
  obtain ⟨k', hi', he⟩ := State.fieldFound?_setVm hvm h2
  exact ⟨c, k', i, f, a, cell, by rw [hvm.findClass]; exact h1, hi', h3, by rw [he]; exact h4, h5, h6, h7, h8, by rw [he]; exact h9, h10⟩
theorem vx_L.kept {C n d : String} {A : Nat → Prop} {U : State} {H H1 : Heap} (h : vx_L C n d A U H) (hq : ∀ a : Nat, a < H.size → ¬ A a → H1[a]? = H[a]?) : vx_L C n d A U H1 := by
  obtain ⟨c, k, i, f, a, cell, h1, h2, h3, h4, h5, h6, h7, h8, h9, h10⟩ := h
  exact ⟨c, k, i, f, a, cell, h1, h2, h3, h4, by rw [hq a (Array.getElem?_eq_some_iff.mp h5).1 h10]; exact h5, h6, h7, h8, h9, h10⟩
theorem vx_L.narrow {C n d : String} {A B : Nat → Prop} {U : State} {H : Heap} (h : vx_L C n d A U H) (hAB : ∀ q, B q → A q) : vx_L C n d B U H := by
  obtain ⟨c, k, i, f, a, cell, h1, h2, h3, h4, h5, h6, h7, h8, h9, h10⟩ := h
  exact ⟨c, k, i, f, a, cell, h1, h2, h3, h4, h5, h6, h7, h8, h9, fun z => h10 (hAB _ z)⟩
theorem vx_L.word {C n d : String} {A : Nat → Prop} {s : State} {args : Array Value} (h : vx_L C n d A s s.heap) : (Cond.laysStatic C n d).before args s = true := by
  obtain ⟨c, k, i, f, a, cell, h1, h2, h3, h4, h5, h6, h7, h8, h9, -⟩ := h
  show (Cond.laysStatic C n d).holds args s none s [] = true
  exact Cond.laysStatic_of h1 h2 h3 h4 h5 h6 h7 h8 h9
/-- .. and what it holds: null or some reference -/
def vx_Zq (C n d : String) (A : Nat → Prop) (U : State) (H : Heap) : Prop := va_Zq C n d A U H ∧ vx_L C n d A U H
theorem vx_Zq.moved {C n d : String} {A : Nat → Prop} {u U : State} {H : Heap} (hvm : u.vm.Alike U.vm) (h : vx_Zq C n d A u H) : vx_Zq C n d A U H := ⟨va_Zq.moved hvm h.1, vx_L.moved hvm h.2⟩
theorem vx_Zq.kept {C n d : String} {A : Nat → Prop} {U : State} {H H1 : Heap} (h : vx_Zq C n d A U H) (hq : ∀ a : Nat, a < H.size → ¬ A a → H1[a]? = H[a]?) : vx_Zq C n d A U H1 := ⟨va_Zq.kept h.1 hq, vx_L.kept h.2 hq⟩
theorem vx_Zq.narrow {C n d : String} {A B : Nat → Prop} {U : State} {H : Heap} (h : vx_Zq C n d A U H) (hAB : ∀ q, B q → A q) : vx_Zq C n d B U H := ⟨va_Zq.narrow h.1 hAB, vx_L.narrow h.2 hAB⟩
theorem vx_Zqof {args : Array Value} {s : State} {C n d : String} {A : Nat → Prop} (hl : (Cond.laysStatic C n d).before args s = true) (hini : (Cond.initialized C).before args s = true) (h : (Cond.isRef (.static C n d)).before args s = true) (hA : ∀ a : Nat, a < s.heap.size → ¬ A a) : vx_Zq C n d A s s.heap := by
  refine ⟨va_Zqof hl hini h hA, ?_⟩
  obtain ⟨c, k, i, f, a, cell, h1, h2, h3, h4, h5, h6, h7, h8, h9⟩ := Cond.laysStatic_spec hl
  exact ⟨c, k, i, f, a, cell, h1, h2, h3, h4, h5, h6, h7, h8, h9, hA a (Array.getElem?_eq_some_iff.mp h5).1⟩
theorem vx_isRef {C n d : String} {v : Value} {A : Nat → Prop} {s : State} {args : Array Value} (h : va_Z C n d v A s s.heap) (hv : v.isRef = true) : (Cond.isRef (.static C n d)).before args s = true := by
  obtain ⟨cf, kf, fi, f, a, cell, h1, h2, h3, h4, h5, h6, h7, -⟩ := h
  have he : (Term.static C n d).eval args s none [] s = some v := by
    simp [Term.eval, State.fieldNamed?, h1, h2, h4, h5, h6, h7]
  simp only [Cond.before, Cond.holds, Cond.value, he]
  cases v <;> simp_all [Value.isRef]
theorem vx_isRefq {C n d : String} {A : Nat → Prop} {s : State} {args : Array Value} (h : va_Zq C n d A s s.heap) : (Cond.isRef (.static C n d)).before args s = true := by
  rcases h with h | ⟨t, h⟩
  · exact vx_isRef h rfl
  · exact vx_isRef h rfl
/-- the same frame, seen from here: as if the method were called anew in this heap -/
theorem vx_rebase {T : State} (X : Stand p l e R s m args below meth c T locs cells slots) {R' : Room} (hf : R'.frames ≤ R.frames) (hl : R'.locals ≤ R.locals) (hc : cells + R'.cells ≤ R.cells) (hs : slots + R'.slots ≤ R.slots) :
    Stand p l e R' ((T.setVm s.vm).setFrames (.invoking m args :: below)) m args below meth c T [] 0 0 := by
  have htop : (T.setVm s.vm).topJava?.isSome := X.here.top
  have hF : ((T.setVm s.vm).setFrames (.invoking m args :: below)).frames = .invoking m args :: below := State.frames_setFrames _ (State.cur_lt_of_top htop)
  obtain ⟨g₀, hg0⟩ := Option.isSome_iff_exists.mp htop
  obtain ⟨r, hr⟩ := State.topJava?_eq_some.mp hg0
  have hl9 : e.platform.stackLimits (T.setVm s.vm).me = e.platform.stackLimits s.me := X.limits
  have hb9 : (T.setVm s.vm).me.stackBytes = s.me.stackBytes := X.bytes
  refine ⟨X.admits, X.cas, X.clock, hF, ?_, X.hears, X.method, X.code, X.here, X.tail, X.warmed, ?_, ?_, ?_⟩
  · have h := X.room
    have hU : ((T.setVm s.vm).setFrames (.invoking m args :: below)).localsInUse = s.localsInUse := by
      rw [State.localsInUse_invoking hF (meth := meth) (c := c) X.method X.code, State.localsInUse_invoking X.frames X.method X.code]
    simp only [State.hasRoom, Bool.and_eq_true, decide_eq_true_eq] at h ⊢
    obtain ⟨⟨⟨⟨h1, h2, h3, h4, h5, h6⟩, h7⟩, h8⟩, h9⟩ := h
    rw [X.frames, List.length_cons] at h2 h3
    have q1 := X.heapSize
    have q2 := X.used
    simp only [hF, hU, List.length_cons, State.stackLimits_setFrames, State.stackBytes_setFrames, hl9, hb9]
    refine ⟨⟨⟨⟨by omega, by omega, by omega, by omega, by omega, h6⟩, ?_⟩, ?_⟩, X.book⟩
    · show T.heap.size + R'.cells ≤ e.platform.maxCells
      omega
    · show T.slotsUsed + R'.slots ≤ e.platform.maxSlots
      omega
  · rw [State.stackLimits_setFrames]; rfl
  · rw [State.stackBytes_setFrames]; rfl
  · refine ⟨?_, Nat.le_refl _, Nat.le_refl _, ?_, ?_, fun a c9 h9 => ⟨c9, h9, rfl, rfl, fun _ _ => rfl⟩⟩
    · obtain ⟨t, ht, -⟩ := State.frames_cons hr
      show T.setVm s.vm = { ((T.setVm s.vm).setFrames (.invoking m args :: below)).setFrames (T.setVm s.vm).frames with heap := T.heap, slotsUsed := T.slotsUsed }
      rw [State.setFrames_setFrames, State.setFrames_self ht]
      rfl
    · show T.slotsUsed = T.slotsUsed + ((T.heap.toList.drop T.heap.size).map (·.slots.size)).sum
      rw [List.drop_eq_nil_of_le (Nat.le_of_eq Array.length_toList)]
      rfl
    · show ((T.heap.toList.drop T.heap.size).map (·.slots.size)).sum ≤ 0
      rw [List.drop_eq_nil_of_le (Nat.le_of_eq Array.length_toList)]
      exact Nat.le_refl _
/-- 'throw new E()': new; dup; invokespecial; athrow -/
theorem vx_throw0 {cc : ByteArray} {pc : Nat} (hexec : p.tables.exec = Jvm.exec) (hb : c.code = cc) (hl : l.stackTraces = false) {own cls : String} {names : List String} {ik ic mc ms : Nat} {A : Nat → Prop}
    (hown : s.vm.findClass own = some m.cls) (hcls : Bundle.fit cls = true) (hnames : ∀ n ∈ names, Bundle.fit n = true)
    (hk : (Cond.classLink own ik cls).before args s = true) (hini : (Cond.initialized cls).before args s = true) (hat : ∀ w ∈ vx_at0 own ic cls names, w.before args s = true)
    (hgood : ∀ w ∈ Cond.classLink own ik cls :: Cond.initialized cls :: vx_at0 own ic cls names, vx_ot w = true)
    (hU : vx_Zq Bundle.tN "UNASSIGNED_STACK" Bundle.steD A s s.heap) (hN : vx_Zq Bundle.tN "SUPPRESSED_SENTINEL" Bundle.listD A s s.heap) (hS : va_S A s.heap H locs) (hsize : ls.size = c.maxLocals)
    (d0 : decode cc pc = .ok (.new ik, 3)) (d3 : decode cc (pc + 3) = .ok (.dup, 1)) (d4 : decode cc (pc + 4) = .ok (.invokespecial ic, 3)) (d7 : decode cc (pc + 7) = .ok (.athrow, 1))
    (hout : ∀ x ∈ c.exceptionTable.toList, covers x (pc + 7) = false)
    (hRframes : names.length + 3 < R.frames) (hRlocals : (rest.map fun v => v.category).sum + (13 * (names.length + 1) + 42) ≤ R.locals) (hRcells : cells + 1 ≤ R.cells) (hRslots : slots + 6 ≤ R.slots) (hlocks : meth.locks = false)
    (hx : ∀ t : State, s.vm.Alike t.vm → H.size ≤ t.heap.size → (∀ q : Nat, q < H.size → t.heap[q]? = H[q]?) → XC cls s t)
    (hf : ∀ z ∈ locs, free z.base) (hc : cells + 1 ≤ mc) (hs : slots + 6 ≤ ms) :
    W p l e R s m args below meth c H locs cells slots (vx_MQ below Qc XC args s mc ms free) (F0 m pc ls rest) := by
  intro T hT X
  have htr : e.platform.stackTraces = false := (show e.platform.stackTraces = l.stackTraces by rw [X.admits.platform]).trans hl
  have Y := vx_rebase X (R' := { frames := R.frames, locals := R.locals, cells := 1, slots := 6 }) (Nat.le_refl _) (Nat.le_refl _) hRcells hRslots
  obtain ⟨s', hA⟩ : ∃ z, z = (T.setVm s.vm).setFrames (.invoking m args :: below) := ⟨_, rfl⟩
  rw [← hA] at Y
  have hvm : s'.vm = s.vm := by rw [hA]; rfl
  have hhp : s'.heap = H := by rw [hA]; exact hT
  have hW0 : s.WarmedH s'.vm := by rw [hvm]; exact State.WarmedH.refl s
  have hat' : ∀ w ∈ vx_at0 own ic cls names, w.before args s' = true := fun w hw => vx_ot_at hW0 hvm.symm (hgood w (List.mem_cons_of_mem _ (List.mem_cons_of_mem _ hw))) (hat w hw)
  have hk' : (Cond.classLink own ik cls).before args s' = true := vx_ot_at hW0 hvm.symm (hgood _ List.mem_cons_self) hk
  have hini' : (Cond.initialized cls).before args s' = true := vx_ot_at hW0 hvm.symm (hgood _ (List.mem_cons_of_mem _ List.mem_cons_self)) hini
  have hU' : vx_Zq Bundle.tN "UNASSIGNED_STACK" Bundle.steD A s' s'.heap := by rw [hhp]; exact vx_Zq.moved hW0.alike (hU.kept hS.2.1)
  have hN' : vx_Zq Bundle.tN "SUPPRESSED_SENTINEL" Bundle.listD A s' s'.heap := by rw [hhp]; exact vx_Zq.moved hW0.alike (hN.kept hS.2.1)
  have h : ∀ w ∈ Bundle.ownAtoms0 own ic cls names, w.before args s' = true := vx_own hat' (vx_isRefq hU'.1) (vx_isRefq hN'.1) hU'.2.word hN'.2.word
  have hown' : s'.vm.findClass own = some m.cls := by rw [hvm]; exact hown
  have hins : (Cond.instantiable cls 6).before args s' = true := h _ (by simp [Bundle.ownAtoms0])
  obtain ⟨vm₁, cX, kX, hfX, hkX, -, -, X₁, st1⟩ := Y.newCold hexec (own := own) (C := cls) (index := ik) (n := 6) hown' hk' hins hini'
    (g := F0 m pc ls rest) rfl (by rw [hb]; exact d0) (Nat.le_refl _) (Nat.le_refl _)
  generalize hT1 : (T.setVm vm₁).pushCell { cls := cX, slots := kX.instanceTypes.map defaultValue, vm := .none } = T1 at X₁ st1
  have hcat : (Value.ref T.heap.size).category = 1 := rfl
  have hcellA : T1.heap[T.heap.size]? = some (freshCell cX kX) := by rw [← hT1]; exact State.heap_pushCell_size _ _
  have d3' : decode c.code (pc + 3) = .ok (.dup, 1) := by rw [hb]; exact d3
  obtain ⟨U, hsteps, hrun, hend, hW, hsame, ce, hce, hO⟩ := X₁.ctorThrow0 hexec htr (own := own) (cls := cls) (names := names) (ic := ic) hown' hcls hnames h (fun x hx => nomatch hx) hfX hkX hcellA (by rw [hhp, hT]; exact Nat.le_refl _)
    (g := { method := m, pc := pc + 4, locals := ls, stack := .ref T.heap.size :: .ref T.heap.size :: rest, locked := none }) rfl hsize rfl rfl (rest := rest) rfl
    (by rw [hb]; exact d4) (by rw [hb]; exact d7) hout hRframes (by simp only [List.map_cons, List.sum_cons, hcat]; omega) hlocks
  obtain ⟨f1, f2⟩ := vx_frame hsame
  rw [hhp] at f1 f2
  have hWs : s.WarmedH U.vm := State.WarmedH.trans hW0 hW
  have hcl : s.vm.findClass cls = some ce.cls := by
    have h9 := hO.cls
    rw [hvm] at h9
    exact h9
  have hall : s.sameButNew ({ U with vm := s.vm } : State) locs mc ms := by
    subst hA
    obtain ⟨e1, e2⟩ := hsame
    rw [State.setFrames_setFrames] at e1
    have h2 : (T.setVm s.vm).sameButNew ({ U with vm := s.vm } : State) [] (0 + 1) (0 + 6) := ⟨e1, e2⟩
    have h3 := X.same.trans h2
    rw [List.append_nil] at h3
    exact h3.mono hc hs
  refine ⟨U, ?_, .threw T.heap.size, hrun, hend, Or.inr ⟨T.heap.size, rfl, cls, ce, locs, hx U hWs.alike f1 (fun q hq => f2 q hq (fun z hz => nomatch hz)), hce, hO.vm, hcl, hWs, hall, hf⟩⟩
  refine st1 _ ?_
  show Steps p.tables e below (T1.setTop { method := m, pc := pc + 3, locals := ls, stack := .ref T.heap.size :: rest, locked := none }) _
  jvm_step X₁.here [X₁.here.top, hexec, d3', Value.category]
  exact hsteps
/-- 'throw new E("text")': new; dup; ldc; invokespecial; athrow -/
theorem vx_throwS {cc : ByteArray} {pc : Nat} (hexec : p.tables.exec = Jvm.exec) (hb : c.code = cc) (hl : l.stackTraces = false) {own cls text : String} {names : List String} {ik is ic mc ms sa : Nat} {A : Nat → Prop}
    (hown : s.vm.findClass own = some m.cls) (hcls : Bundle.fit cls = true) (hnames : ∀ n ∈ names, Bundle.fit n = true)
    (hk : (Cond.classLink own ik cls).before args s = true) (hini : (Cond.initialized cls).before args s = true) (hstr : vk_R own is text sa s) (hat : ∀ w ∈ vx_atS own ic cls names, w.before args s = true)
    (hgood : ∀ w ∈ Cond.classLink own ik cls :: Cond.initialized cls :: vx_atS own ic cls names, vx_ot w = true)
    (hU : vx_Zq Bundle.tN "UNASSIGNED_STACK" Bundle.steD A s s.heap) (hN : vx_Zq Bundle.tN "SUPPRESSED_SENTINEL" Bundle.listD A s s.heap) (hS : va_S A s.heap H locs) (hsize : ls.size = c.maxLocals)
    (d0 : decode cc pc = .ok (.new ik, 3)) (d3 : decode cc (pc + 3) = .ok (.dup, 1)) (d4 : decode cc (pc + 4) = .ok (.ldc is, 2)) (d6 : decode cc (pc + 6) = .ok (.invokespecial ic, 3)) (d9 : decode cc (pc + 9) = .ok (.athrow, 1))
    (hout : ∀ x ∈ c.exceptionTable.toList, covers x (pc + 9) = false)
    (hRframes : names.length + 3 < R.frames) (hRlocals : (rest.map fun v => v.category).sum + (13 * (names.length + 1) + 43) ≤ R.locals) (hRcells : cells + 1 ≤ R.cells) (hRslots : slots + 6 ≤ R.slots) (hlocks : meth.locks = false)
    (hx : ∀ t : State, s.vm.Alike t.vm → H.size ≤ t.heap.size → (∀ q : Nat, q < H.size → t.heap[q]? = H[q]?) → XC cls s t)
    (hf : ∀ z ∈ locs, free z.base) (hc : cells + 1 ≤ mc) (hs : slots + 6 ≤ ms) :
    W p l e R s m args below meth c H locs cells slots (vx_MQ below Qc XC args s mc ms free) (F0 m pc ls rest) := by
  intro T hT X
  have htr : e.platform.stackTraces = false := (show e.platform.stackTraces = l.stackTraces by rw [X.admits.platform]).trans hl
  have Y := vx_rebase X (R' := { frames := R.frames, locals := R.locals, cells := 1, slots := 6 }) (Nat.le_refl _) (Nat.le_refl _) hRcells hRslots
  obtain ⟨s', hA⟩ : ∃ z, z = (T.setVm s.vm).setFrames (.invoking m args :: below) := ⟨_, rfl⟩
  rw [← hA] at Y
  have hvm : s'.vm = s.vm := by rw [hA]; rfl
  have hhp : s'.heap = H := by rw [hA]; exact hT
  have hW0 : s.WarmedH s'.vm := by rw [hvm]; exact State.WarmedH.refl s
  have hat' : ∀ w ∈ vx_atS own ic cls names, w.before args s' = true := fun w hw => vx_ot_at hW0 hvm.symm (hgood w (List.mem_cons_of_mem _ (List.mem_cons_of_mem _ hw))) (hat w hw)
  have hk' : (Cond.classLink own ik cls).before args s' = true := vx_ot_at hW0 hvm.symm (hgood _ List.mem_cons_self) hk
  have hini' : (Cond.initialized cls).before args s' = true := vx_ot_at hW0 hvm.symm (hgood _ (List.mem_cons_of_mem _ List.mem_cons_self)) hini
  have hU' : vx_Zq Bundle.tN "UNASSIGNED_STACK" Bundle.steD A s' s'.heap := by rw [hhp]; exact vx_Zq.moved hW0.alike (hU.kept hS.2.1)
  have hN' : vx_Zq Bundle.tN "SUPPRESSED_SENTINEL" Bundle.listD A s' s'.heap := by rw [hhp]; exact vx_Zq.moved hW0.alike (hN.kept hS.2.1)
  have h : ∀ w ∈ Bundle.ownAtoms own ic cls names, w.before args s' = true := vx_own hat' (vx_isRefq hU'.1) (vx_isRefq hN'.1) hU'.2.word hN'.2.word
  have hown' : s'.vm.findClass own = some m.cls := by rw [hvm]; exact hown
  have hins : (Cond.instantiable cls 6).before args s' = true := h _ (by simp [Bundle.ownAtoms])
  obtain ⟨vm₁, cX, kX, hfX, hkX, -, -, X₁, st1⟩ := Y.newCold hexec (own := own) (C := cls) (index := ik) (n := 6) hown' hk' hins hini'
    (g := F0 m pc ls rest) rfl (by rw [hb]; exact d0) (Nat.le_refl _) (Nat.le_refl _)
  generalize hT1 : (T.setVm vm₁).pushCell { cls := cX, slots := kX.instanceTypes.map defaultValue, vm := .none } = T1 at X₁ st1
  have hcat : (Value.ref T.heap.size).category = 1 := rfl
  have hcellA : T1.heap[T.heap.size]? = some (freshCell cX kX) := by rw [← hT1]; exact State.heap_pushCell_size _ _
  have d3' : decode c.code (pc + 3) = .ok (.dup, 1) := by rw [hb]; exact d3
  have d4' : decode c.code (pc + 4) = .ok (.ldc is, 2) := by rw [hb]; exact d4
  have hstr' : vk_R own is text sa s' := vk_R.warm hW0 hstr
  obtain ⟨U, hsteps, hrun, hend, hW, hsame, ce, hce, hO⟩ := X₁.ctorThrowS hexec htr (own := own) (cls := cls) (names := names) (ic := ic) hown' hcls hnames h (fun x hx => nomatch hx) hfX hkX hcellA (by rw [hhp, hT]; exact Nat.le_refl _) (msg := .ref sa) rfl
    (g := { method := m, pc := pc + 6, locals := ls, stack := .ref sa :: .ref T.heap.size :: .ref T.heap.size :: rest, locked := none }) rfl hsize rfl rfl (rest := rest) rfl
    (by rw [hb]; exact d6) (by rw [hb]; exact d9) hout hRframes (by simp only [List.map_cons, List.sum_cons, hcat]; omega) hlocks
  obtain ⟨f1, f2⟩ := vx_frame hsame
  rw [hhp] at f1 f2
  have hWs : s.WarmedH U.vm := State.WarmedH.trans hW0 hW
  have hcl : s.vm.findClass cls = some ce.cls := by
    have h9 := hO.cls
    rw [hvm] at h9
    exact h9
  have hall : s.sameButNew ({ U with vm := s.vm } : State) locs mc ms := by
    subst hA
    obtain ⟨e1, e2⟩ := hsame
    rw [State.setFrames_setFrames] at e1
    have h2 : (T.setVm s.vm).sameButNew ({ U with vm := s.vm } : State) [] (0 + 1) (0 + 6) := ⟨e1, e2⟩
    have h3 := X.same.trans h2
    rw [List.append_nil] at h3
    exact h3.mono hc hs
  refine ⟨U, ?_, .threw T.heap.size, hrun, hend, Or.inr ⟨T.heap.size, rfl, cls, ce, locs, hx U hWs.alike f1 (fun q hq => f2 q hq (fun z hz => nomatch hz)), hce, hO.vm, hcl, hWs, hall, hf⟩⟩
  refine st1 _ ?_
  show Steps p.tables e below (T1.setTop { method := m, pc := pc + 3, locals := ls, stack := .ref T.heap.size :: rest, locked := none }) _
  jvm_step X₁.here [X₁.here.top, hexec, d3', Value.category]
  exact X₁.ldcString hexec (own := own) (text := text) (index := is) (a := sa) hown' hstr'.1 hstr'.2
    (g := { method := m, pc := pc + 4, locals := ls, stack := .ref T.heap.size :: .ref T.heap.size :: rest, locked := none }) rfl d4' _ hsteps
/-- 'throw new E("text")', the text by a wide index -/
theorem vx_throwSW {cc : ByteArray} {pc : Nat} (hexec : p.tables.exec = Jvm.exec) (hb : c.code = cc) (hl : l.stackTraces = false) {own cls text : String} {names : List String} {ik is ic mc ms sa : Nat} {A : Nat → Prop}
    (hown : s.vm.findClass own = some m.cls) (hcls : Bundle.fit cls = true) (hnames : ∀ n ∈ names, Bundle.fit n = true)
    (hk : (Cond.classLink own ik cls).before args s = true) (hini : (Cond.initialized cls).before args s = true) (hstr : vk_R own is text sa s) (hat : ∀ w ∈ vx_atS own ic cls names, w.before args s = true)
    (hgood : ∀ w ∈ Cond.classLink own ik cls :: Cond.initialized cls :: vx_atS own ic cls names, vx_ot w = true)
    (hU : vx_Zq Bundle.tN "UNASSIGNED_STACK" Bundle.steD A s s.heap) (hN : vx_Zq Bundle.tN "SUPPRESSED_SENTINEL" Bundle.listD A s s.heap) (hS : va_S A s.heap H locs) (hsize : ls.size = c.maxLocals)
    (d0 : decode cc pc = .ok (.new ik, 3)) (d3 : decode cc (pc + 3) = .ok (.dup, 1)) (d4 : decode cc (pc + 4) = .ok (.ldc_w is, 3)) (d7 : decode cc (pc + 7) = .ok (.invokespecial ic, 3)) (d10 : decode cc (pc + 10) = .ok (.athrow, 1))
    (hout : ∀ x ∈ c.exceptionTable.toList, covers x (pc + 10) = false)
    (hRframes : names.length + 3 < R.frames) (hRlocals : (rest.map fun v => v.category).sum + (13 * (names.length + 1) + 43) ≤ R.locals) (hRcells : cells + 1 ≤ R.cells) (hRslots : slots + 6 ≤ R.slots) (hlocks : meth.locks = false)
    (hx : ∀ t : State, s.vm.Alike t.vm → H.size ≤ t.heap.size → (∀ q : Nat, q < H.size → t.heap[q]? = H[q]?) → XC cls s t)
    (hf : ∀ z ∈ locs, free z.base) (hc : cells + 1 ≤ mc) (hs : slots + 6 ≤ ms) :
    W p l e R s m args below meth c H locs cells slots (vx_MQ below Qc XC args s mc ms free) (F0 m pc ls rest) := by
  intro T hT X
  have htr : e.platform.stackTraces = false := (show e.platform.stackTraces = l.stackTraces by rw [X.admits.platform]).trans hl
  have Y := vx_rebase X (R' := { frames := R.frames, locals := R.locals, cells := 1, slots := 6 }) (Nat.le_refl _) (Nat.le_refl _) hRcells hRslots
  obtain ⟨s', hA⟩ : ∃ z, z = (T.setVm s.vm).setFrames (.invoking m args :: below) := ⟨_, rfl⟩
  rw [← hA] at Y
  have hvm : s'.vm = s.vm := by rw [hA]; rfl
  have hhp : s'.heap = H := by rw [hA]; exact hT
  have hW0 : s.WarmedH s'.vm := by rw [hvm]; exact State.WarmedH.refl s
  have hat' : ∀ w ∈ vx_atS own ic cls names, w.before args s' = true := fun w hw => vx_ot_at hW0 hvm.symm (hgood w (List.mem_cons_of_mem _ (List.mem_cons_of_mem _ hw))) (hat w hw)
  have hk' : (Cond.classLink own ik cls).before args s' = true := vx_ot_at hW0 hvm.symm (hgood _ List.mem_cons_self) hk
  have hini' : (Cond.initialized cls).before args s' = true := vx_ot_at hW0 hvm.symm (hgood _ (List.mem_cons_of_mem _ List.mem_cons_self)) hini
  have hU' : vx_Zq Bundle.tN "UNASSIGNED_STACK" Bundle.steD A s' s'.heap := by rw [hhp]; exact vx_Zq.moved hW0.alike (hU.kept hS.2.1)
  have hN' : vx_Zq Bundle.tN "SUPPRESSED_SENTINEL" Bundle.listD A s' s'.heap := by rw [hhp]; exact vx_Zq.moved hW0.alike (hN.kept hS.2.1)
  have h : ∀ w ∈ Bundle.ownAtoms own ic cls names, w.before args s' = true := vx_own hat' (vx_isRefq hU'.1) (vx_isRefq hN'.1) hU'.2.word hN'.2.word
  have hown' : s'.vm.findClass own = some m.cls := by rw [hvm]; exact hown
  have hins : (Cond.instantiable cls 6).before args s' = true := h _ (by simp [Bundle.ownAtoms])
  obtain ⟨vm₁, cX, kX, hfX, hkX, -, -, X₁, st1⟩ := Y.newCold hexec (own := own) (C := cls) (index := ik) (n := 6) hown' hk' hins hini'
    (g := F0 m pc ls rest) rfl (by rw [hb]; exact d0) (Nat.le_refl _) (Nat.le_refl _)
  generalize hT1 : (T.setVm vm₁).pushCell { cls := cX, slots := kX.instanceTypes.map defaultValue, vm := .none } = T1 at X₁ st1
  have hcat : (Value.ref T.heap.size).category = 1 := rfl
  have hcellA : T1.heap[T.heap.size]? = some (freshCell cX kX) := by rw [← hT1]; exact State.heap_pushCell_size _ _
  have d3' : decode c.code (pc + 3) = .ok (.dup, 1) := by rw [hb]; exact d3
  have d4' : decode c.code (pc + 4) = .ok (.ldc_w is, 3) := by rw [hb]; exact d4
  have hstr' : vk_R own is text sa s' := vk_R.warm hW0 hstr
  obtain ⟨U, hsteps, hrun, hend, hW, hsame, ce, hce, hO⟩ := X₁.ctorThrowS hexec htr (own := own) (cls := cls) (names := names) (ic := ic) hown' hcls hnames h (fun x hx => nomatch hx) hfX hkX hcellA (by rw [hhp, hT]; exact Nat.le_refl _) (msg := .ref sa) rfl
    (g := { method := m, pc := pc + 7, locals := ls, stack := .ref sa :: .ref T.heap.size :: .ref T.heap.size :: rest, locked := none }) rfl hsize rfl rfl (rest := rest) rfl
    (by rw [hb]; exact d7) (by rw [hb]; exact d10) hout hRframes (by simp only [List.map_cons, List.sum_cons, hcat]; omega) hlocks
  obtain ⟨f1, f2⟩ := vx_frame hsame
  rw [hhp] at f1 f2
  have hWs : s.WarmedH U.vm := State.WarmedH.trans hW0 hW
  have hcl : s.vm.findClass cls = some ce.cls := by
    have h9 := hO.cls
    rw [hvm] at h9
    exact h9
  have hall : s.sameButNew ({ U with vm := s.vm } : State) locs mc ms := by
    subst hA
    obtain ⟨e1, e2⟩ := hsame
    rw [State.setFrames_setFrames] at e1
    have h2 : (T.setVm s.vm).sameButNew ({ U with vm := s.vm } : State) [] (0 + 1) (0 + 6) := ⟨e1, e2⟩
    have h3 := X.same.trans h2
    rw [List.append_nil] at h3
    exact h3.mono hc hs
  refine ⟨U, ?_, .threw T.heap.size, hrun, hend, Or.inr ⟨T.heap.size, rfl, cls, ce, locs, hx U hWs.alike f1 (fun q hq => f2 q hq (fun z hz => nomatch hz)), hce, hO.vm, hcl, hWs, hall, hf⟩⟩
  refine st1 _ ?_
  show Steps p.tables e below (T1.setTop { method := m, pc := pc + 3, locals := ls, stack := .ref T.heap.size :: rest, locked := none }) _
  jvm_step X₁.here [X₁.here.top, hexec, d3', Value.category]
  exact X₁.ldcStringW hexec (own := own) (text := text) (index := is) (a := sa) hown' hstr'.1 hstr'.2
    (g := { method := m, pc := pc + 4, locals := ls, stack := .ref T.heap.size :: .ref T.heap.size :: rest, locked := none }) rfl d4' _ hsteps
end Ends
section Bodies
variable {l : Launch}
theorem vx_ofW {y : MethodName} {ws ws' : List Cond} {rm : Room} {Pc : Array Value → State → Prop} {Qc : Array Value → State → Outcome → State → Prop} {XC : String → State → State → Prop} {mc ms : Nat} {free : Addr → Prop} {cc : ByteArray} {maxL : Nat} {ret : Option FieldType}
    (hy : plainName y.cls = true) (hw : ws = Cond.code y cc maxL ret :: ws')
    (body : ∀ p e s m args below meth c s₁, BodyLoose p l y (headSpec ws rm) cc maxL ret e s m args below meth c s₁ → c.maxLocals = maxL → (∀ x ∈ c.exceptionTable.toList, False) → Pc args s →
      W p l e (headSpec ws rm).room s m args below meth c s.heap [] 0 0 (vx_MQ below Qc XC args s mc ms free) (entryFrame m args maxL)) : vx_Met l y ws rm Pc Qc XC mc ms free := by
  refine MetFree.of_bodyS (code := cc) (maxLocals := maxL) (ret := ret) hy ?_ ?_
  · intro args s m h hn
    obtain ⟨meth, c, h1, h2, h3, h4, h5, h6, -, -⟩ := Cond.code_spec hn (atoms_spec (ws := ws) h _ (by rw [hw]; exact List.mem_cons_self))
    exact ⟨meth, c, h1, h2, h3, h4, h5, h6⟩
  · intro p e s m args below meth c s₁ B hml hP _
    have hh0 : s₁.heap = s.heap := by rw [B.state]; rfl
    have ht : ∀ x ∈ c.exceptionTable.toList, False := by
      obtain ⟨meth9, c9, h1, h2, -, -, -, -, h7, -⟩ := Cond.code_spec B.named (atoms_spec (ws := ws) B.pre _ (by rw [hw]; exact List.mem_cons_self))
      cases Option.some.inj (h1.symm.trans B.method)
      cases Option.some.inj (h2.symm.trans (Stand.of_body B).code)
      intro x hx
      rw [Array.isEmpty_iff.mp h7] at hx
      cases hx
    obtain ⟨t, a1, o, b1, b2, b3⟩ := body p e s m args below meth c s₁ B hml ht hP s₁ hh0 (Stand.of_body B)
    exact ⟨t, o, a1, b1, b2, b3⟩
/-- the table of a body with handlers -/
theorem vx_table {p : Program} {x y : MethodName} {S : Spec} {cc bytes : ByteArray} {maxL maxL' : Nat} {ret ret' : Option FieldType} {e : Env} {s s₁ : State} {m : MethodId} {args : Array Value} {below : List Frame} {meth : Method} {c : Code} {hh : List (Nat × Nat × Nat × Nat)}
    (B : BodyLoose p l y S cc maxL ret e s m args below meth c s₁) (h : (Cond.codeWith y bytes maxL' ret' hh).before args s = true) : c.exceptionTable.toList = tableOf hh := by
  obtain ⟨m9, meth9, c9, hn9, h1, h2, -, -, h6, -⟩ := Cond.codeWith_spec h
  cases Option.some.inj (hn9.symm.trans B.named)
  cases Option.some.inj (h1.symm.trans B.method)
  cases Option.some.inj (h2.symm.trans (Stand.of_body B).code)
  rw [← h6, table_eq]
end Bodies
end VXA
/-! ===== END ===== -/
/-! ===== BEGIN a static call of a method with an exception table ===== -/
section VXS
variable {p : Program} {l : Launch} {e : Env} {R : Room} {s : State} {m : MethodId} {args : Array Value} {below : List Frame} {meth : Method} {c : Code} {T : State} {H : Heap} {locs : List Loc} {cells slots : Nat}
abbrev vx_CSW (R : Room) (s : State) (args : Array Value) (own : String) (index : Nat) (y : MethodName) (bytes : ByteArray) (maxL : Nat) (ret : Option FieldType) (hh : List (Nat × Nat × Nat × Nat)) (ws : List Cond) (rm : Room) (mc ms n : Nat) : Prop :=
  (rm.cells = mc ∧ rm.slots = ms ∧ rm.frames + 1 ≤ R.frames ∧ 8 + (maxL + 11) + rm.locals ≤ R.locals ∧ (∀ w ∈ ws, ∀ (a' : Array Value) (U : State), s.WarmedH U.vm → w.before a' U = true) ∧ Cond.codeWith y bytes maxL ret hh ∈ ws) ∧
  (Cond.codeWith y bytes maxL ret hh).before args s = true ∧ (Cond.initialized y.cls).before args s = true ∧ (y.cls ≠ "java/lang/invoke/MethodHandle" ∧ y.cls ≠ "java/lang/invoke/VarHandle") ∧
  (∀ sig, parseMethodDescriptor y.desc = some sig → n = sig.parameters.length) ∧ (Cond.methodLink own index y).before args s = true ∧ (Cond.static y).before args s = true
theorem vx_cwSW {own : String} {index maxL mc ms : Nat} {y : MethodName} {bytes : ByteArray} {ret : Option FieldType} {hh : List (Nat × Nat × Nat × Nat)} {Ts ws ws' : List Cond} {rm : Room} (n : Nat) (ht : ∀ w ∈ Ts, w.before args s = true) (hT : GoodIn Ts (va_wsS own index y ws)) (hw : ws = Cond.codeWith y bytes maxL ret hh :: ws') (hrc : rm.cells = mc) (hrs : rm.slots = ms)
    (hd : y.cls ≠ "java/lang/invoke/MethodHandle" ∧ y.cls ≠ "java/lang/invoke/VarHandle" ∧ (parseMethodDescriptor y.desc).map (fun d => d.parameters.length) = some n) (hR : rm.frames + 1 ≤ R.frames ∧ 8 + (maxL + 11) + rm.locals ≤ R.locals) :
    vx_CSW R s args own index y bytes maxL ret hh ws rm mc ms n := by
  have ok : ∀ w ∈ va_wsS own index y ws, w.before args s = true := fun w h => ht w (hT w h).1
  have hG : GoodIn Ts ws := fun w h => hT w (by unfold va_wsS; exact List.mem_append_right _ h)
  have hc : Cond.codeWith y bytes maxL ret hh ∈ ws := by rw [hw]; exact List.mem_cons_self
  refine ⟨⟨hrc, hrs, hR.1, hR.2, pay_in ht hG, hc⟩, ht _ (hG _ hc).1, ok _ (by simp [va_wsS]), ⟨hd.1, hd.2.1⟩, fun sig h => ?_, ok _ (by simp [va_wsS]), ok _ (by simp [va_wsS])⟩
  have h2 := hd.2.2
  rw [h] at h2
  exact (Option.some.inj h2).symm
theorem vx_callSW (X : Stand p l e R s m args below meth c T locs cells slots) (hexec : p.tables.exec = Jvm.exec) {own : String} {index : Nat} {y : MethodName} {bytes : ByteArray} {maxL : Nat} {ret : Option FieldType} {hh : List (Nat × Nat × Nat × Nat)}
    (hown : s.vm.findClass own = some m.cls) (hlink : (Cond.methodLink own index y).before args s = true) (hstat : (Cond.static y).before args s = true) (hinit : (Cond.initialized y.cls).before args s = true)
    (hcode : (Cond.codeWith y bytes maxL ret hh).before args s = true) (hy : y.cls ≠ "java/lang/invoke/MethodHandle" ∧ y.cls ≠ "java/lang/invoke/VarHandle")
    {W9 : Nat} {Pre : Pt → Array Value → Prop} {Post : Pt → Array Value → Option Value → Pt → Prop} (hK : Back l R p e below s args y 3 W9 Pre Post)
    {g : JFrame} (hg : g.method = m) (hsize : g.locals.size = c.maxLocals) {argsL rest : List Value} (hlen : ∀ sig, parseMethodDescriptor y.desc = some sig → argsL.length = sig.parameters.length)
    (hstack : g.stack = argsL.reverse ++ rest) (hW : 2 * g.monitorRoom + (rest.map fun v => v.category).sum ≤ W9) (hdg : decode c.code g.pc = .ok (.invokestatic index, 3))
    (hpre : ∀ vm₁, s.WarmedH vm₁ → Pre ⟨T.setVm vm₁, locs, cells, slots⟩ argsL.toArray) :
    ∃ (v : Option Value) (vm₁ : Vm) (B : Pt), s.WarmedH vm₁ ∧ Stand p l e R s m args below meth c B.U B.locs B.cells B.slots ∧ Post ⟨T.setVm vm₁, locs, cells, slots⟩ argsL.toArray v B ∧
      ∀ target, Steps p.tables e below (B.U.setTop { g with pc := g.pc + 3, stack := v.toList ++ rest }) target → Steps p.tables e below (T.setTop g) target := by
  obtain ⟨mk, methM, cM, hnamed, hmethM, -, -, -, -, -, -, hsigM⟩ := Cond.codeWith_spec hcode
  have hstatic : methM.isStatic = true := Cond.static_spec hnamed hmethM hstat
  obtain ⟨kP, hkP, -⟩ := className_of_methodNamed hnamed
  have hinitP : kP.init = .initialized := Cond.initialized_spec (findClass_of_methodNamed hnamed) hkP hinit
  obtain ⟨vm₁, X₁, hstep₁⟩ := X.invokestatic hexec hown hlink hnamed hmethM hstatic hkP hinitP hy (g := g) hg (argsL := argsL) (rest := rest) (hlen _ hsigM) hstack hdg
  obtain ⟨v, B, X', hpost, hsteps⟩ := hK m meth c ⟨T.setVm vm₁, locs, cells, slots⟩ { g with stack := rest } (.invokestatic index) mk argsL.toArray X₁ hg hsize hdg hW (X₁.named hnamed) (hpre vm₁ X₁.warmed)
  exact ⟨v, vm₁, B, X₁.warmed, X', hpost, fun target h => hstep₁ _ fun acts => by rw [doInvoke_state]; exact hsteps.trans h⟩
theorem vx_runSW {y : MethodName} {bytes cc : ByteArray} {maxL nL mc ms n index : Nat} {ret : Option FieldType} {hh : List (Nat × Nat × Nat × Nat)} {ws : List Cond} {rm : Room} {Pc : Array Value → State → Prop} {Qc : Array Value → State → Outcome → State → Prop} {free : Addr → Prop} {Ts : List Cond} {own : String} {As rest : List Value} {g : JFrame}
    (S : CallFix p m c cc nL s args Ts own) (hM : Met l y ws rm Pc Qc mc ms free) (cw : vx_CSW R s args own index y bytes maxL ret hh ws rm mc ms n) (hp : PreS s H Pc As)
    (hg : g.method = m) (hn : As.length = n) (hsize : g.locals.size = nL) (hstack : g.stack = As.reverse ++ rest) (hW : 2 * g.monitorRoom + (rest.map fun v => v.category).sum ≤ 8) (hdg : decode cc g.pc = .ok (.invokestatic index, 3)) (hf : cells + mc ≤ R.cells ∧ slots + ms ≤ R.slots) :
    va_Run p l e R s m args below meth c H locs cells slots mc ms g rest (Qc As.toArray) (free) := by
  obtain ⟨⟨hrc, hrs, hfr, hlo, hws, hcw⟩, hcode, hini, hy, hlen, hl, hstt⟩ := cw
  have hK : Back l R p e below s args y 3 8 (PreOf R mc ms Pc) (PostOf Qc mc ms free) := va_backW (hh := hh) (bytes := bytes) (maxL := maxL) (ret := ret) hM hp.1 hrc hrs hfr hlo hws hcw (fun a' U hW => word_at hW (Or.inl (by first | rfl | simp [Cond.onTables, Cond.keeps, Cond.steady])) hini)
  obtain ⟨hx, hb, hml, ho, -⟩ := S
  intro T hT X
  obtain ⟨v, vm₁, ⟨U', l2, c2, s2⟩, hW₁, X', ⟨g', mk, t, L, e1, e2, hq, h1, hL, h2, h3⟩, st⟩ := vx_callSW X hx (hh := hh) (bytes := bytes) (maxL := maxL) (ret := ret) ho hl hstt hini hcode hy hK hg (hsize.trans hml.symm) (argsL := As) (rest := rest) (fun sig h => hn.trans (hlen sig h)) hstack hW (by rw [hb]; exact hdg)
    (fun vm₁ hW₁ => ⟨hf.1, hf.2, hp.2 (T.setVm vm₁) hT hW₁⟩)
  dsimp only [Pt.U, Pt.locs, Pt.cells, Pt.slots] at X' e1 e2 h1 h2 h3 st
  subst h1; subst h2; subst h3
  exact ⟨v, (T.setVm vm₁).calling g' mk As.toArray, t, U', L, hT, X', hL, e1, e2, hq, st⟩
/-- not caught here, past rows that name other classes: it goes on to the caller -/
theorem vx_outP {p : Program} {l : Launch} {e : Env} {R : Room} {s : State} {m : MethodId} {args : Array Value} {below : List Frame} {meth : Method} {c : Code} {H : Heap} {locs : List Loc} {cells slots : Nat} {free : Addr → Prop} {ls : Array Slot} {rest : List Value} {Qc : Array Value → State → Outcome → State → Prop} {XC : String → State → State → Prop}
    {pc : Nat} {own E : String} {ce : Cell} {q : Addr} {mc ms : Nat} (hown : s.vm.findClass own = some m.cls) (hlocks : meth.locks = false)
    (hpass : ∀ z ∈ c.exceptionTable.toList, covers z pc = false ∨ (z.catchType ≠ 0 ∧ ∃ nm : String, (Cond.classLink own z.catchType nm).before args s = true ∧ va_Nc E nm s)) (hcell : H[q]? = some ce) (hv : ce.vm = .none) (hcl : s.vm.findClass E = some ce.cls)
    (hx : ∀ t : State, t.heap = H → s.vm.Alike t.vm → XC E s t) (hf : ∀ z ∈ locs, free z.base) (hc : cells ≤ mc) (hs : slots ≤ ms) :
    vx_W p l e R s m args below meth c H locs cells slots (vx_MQ below Qc XC args s mc ms free) (F0 m pc ls rest) q := by
  intro T hT X
  have hpl : e.platform.magicAccessors = ({} : Platform).magicAccessors := by rw [X.admits.platform]
  obtain ⟨vm', hW', X', st⟩ := X.outThrough hlocks q (g := F0 m pc ls rest) rfl rfl rfl (cell := ce) (by rw [hT]; exact hcell) (by rw [hv]; rfl)
    (by obtain ⟨k9, h9, -⟩ := Vm.findClass_spec hcl; exact ⟨k9, h9⟩) (fun z hz => by
      rcases hpass z hz with h | ⟨hz0, nm, hl1, hn1⟩
      · exact Or.inl h
      · obtain ⟨c6, hc6, hcl6⟩ := Cond.classLink_spec hown hl1 e.platform hpl
        obtain ⟨a8, b8, h1, h2, h3⟩ := hn1
        cases Option.some.inj (h1.symm.trans hcl)
        cases Option.some.inj (h2.symm.trans hc6)
        exact Or.inr ⟨hz0, _, hcl6, h3⟩)
  obtain ⟨g₀, hfr⟩ := X'.frames_eq
  have hcell9 : ((T.setVm vm').setFrames (.throwing q :: below)).heap[q]? = some ce := by
    show T.heap[q]? = some ce
    rw [hT]; exact hcell
  have hend : Ended ((T.setVm vm').setFrames (.throwing q :: below)) below (.threw q) := State.frames_setFrames _ (State.cur_lt_of_frames hfr)
  refine ⟨(T.setVm vm').setFrames (.throwing q :: below), ?_, .threw q, X'.here.running, hend, Or.inr ⟨q, rfl, E, ce, locs, hx _ hT (X'.ends _).1.alike, hcell9, hv, hcl, (X'.ends _).1, (X'.ends _).2.mono hc hs, hf⟩⟩
  rw [X.pushThrowing_eq]
  exact st
/-- a thing of a world lies in the heap -/
theorem vx_lt {D : va_G} {cl : List vw_C} {ws : va_W} {H1 : Heap} (h : va_P D cl ws H1) {k : Nat} {q : Nat × va_E} (hk : ws[k]? = some q) : q.1 < H1.size := (h k q hk).lt
end VXS
/-! ===== END ===== -/
/-! ===== BEGIN methods with a table of their own: called by a name, returning or throwing ===== -/
section VXH
/-! vx_backW, vx_callVX, vx_callSX, vx_callVW, vx_runVW, vx_runVX, vx_runSX, vx_ofWH follow the same proofs as their sisters above (Free/Laws.lean, Shelf42/LK1.lean); vx_outP calls Shelf42/NT130.lean (outThrough). -/
section
variable {l : Launch} {R : Room} {p : Program} {e : Env} {below : List Frame} {s : State} {sargs : Array Value} {y : MethodName} {len W9 : Nat}
theorem vx_backW {ws : List Cond} {rm : Room} {Pc : Array Value → State → Prop} {Qc : Array Value → State → Outcome → State → Prop} {XC : String → State → State → Prop} {mc ms : Nat} {free : Addr → Prop} {bytes : ByteArray} {maxL : Nat} {ret : Option FieldType} {hh : List (Nat × Nat × Nat × Nat)}
    (hM : vx_Met l y ws rm Pc Qc XC mc ms free) (hblind : FrameBlind Pc) (hrc : rm.cells = mc) (hrs : rm.slots = ms)
    (hframes : rm.frames + 1 ≤ R.frames) (hlocals : W9 + (maxL + 11) + rm.locals ≤ R.locals)
    (hws : ∀ w ∈ ws, ∀ a' U, s.WarmedH U.vm → w.before a' U = true) (hcode : Cond.codeWith y bytes maxL ret hh ∈ ws) (hinit : ∀ a' U, s.WarmedH U.vm → (Cond.initialized y.cls).before a' U = true) :
    vx_Back l R p e below s sargs y len W9 (PreOf R mc ms Pc) (PostOf Qc mc ms free) (vx_Post XC mc ms free) := by
  intro m meth c A g ig mk a X hg hsize hdg hW hn hp
  have h1 : (headSpec ws rm).pre.before a A.U = true := atoms_intro fun w hw => hws w hw _ _ X.warmed
  have h2 : (Cond.codeWith y bytes maxL ret hh).before a A.U = true := hws _ hcode _ _ X.warmed
  have h3 : (Cond.initialized y.cls).before a A.U = true := hinit _ _ X.warmed
  have h4 : A.cells + (headSpec ws rm).room.cells ≤ R.cells := by rw [show (headSpec ws rm).room.cells = mc from hrc]; exact hp.1
  have h5 : A.slots + (headSpec ws rm).room.slots ≤ R.slots := by rw [show (headSpec ws rm).room.slots = ms from hrs]; exact hp.2.1
  have hPc : Pc a (A.U.calling g mk a) := hblind _ _ _ _ hp.2.2
  obtain ⟨U, Ls, c0, s0⟩ := A
  dsimp only [Pt.U, Pt.locs, Pt.cells, Pt.slots] at h1 h2 h3 h4 h5 X hn hPc ⊢
  obtain ⟨m9, methY, cY, hn9, hmY, hcY, -, hlY, -⟩ := Cond.codeWith_spec h2
  cases Option.some.inj (hn9.symm.trans hn)
  obtain ⟨kY, hkY, -⟩ := className_of_methodNamed hn
  have hinitY : kY.init = .initialized := Cond.initialized_spec (findClass_of_methodNamed hn) hkY h3
  have h : At U g.method c below := by rw [hg]; exact X.here
  have hlocals9 : W9 + (maxL + 11) + (headSpec ws rm).room.locals ≤ R.locals := hlocals
  have happ : (headSpec ws rm).appliesLoose y e.platform (U.calling g mk a) = true :=
    Spec.appliesLoose_calling (g := g) h hdg hn hkY hinitY
      (X.room_calling (g := g) (R' := (headSpec ws rm).room) hsize hmY hcY hframes (by rw [hlY]; omega) h4 h5) h1
  obtain ⟨mid, hmid⟩ := h.above
  have hfr : (U.setTop g).frames = (.java g :: mid) ++ below := by rw [State.frames_setTop' g h.top, hmid]; rfl
  obtain ⟨o, s₂, hsteps, -, hend, hq⟩ := Steps.callFree hM p X.admits X.cas X.clock (acts := []) hfr happ hPc trivial
  have hq' : vx_Q Qc XC mc ms free a (U.calling g mk a) o s₂ := hq
  rw [State.frames_setTop' g h.top] at hend
  obtain ⟨g₀, hg0⟩ := Option.isSome_iff_exists.mp h.top
  obtain ⟨r, hr⟩ := State.topJava?_eq_some.mp hg0
  have hr' : (({ U with heap := s₂.heap, slotsUsed := s₂.slotsUsed } : State).setVm s₂.vm).frames = .java g₀ :: r := hr
  rcases hq' with ⟨hqc, L, hfe, hL⟩ | ⟨q, rfl, E, ce, L, hx, hce, hcv, hcl, hW₂, hsm, hL⟩
  · obtain ⟨⟨v, rfl⟩, hW₂, e2, q2, q3, q4, q5, q6⟩ := id hfe
    have e3 : s₂ = ({ (U.calling g mk a).setFrames s₂.frames with heap := s₂.heap, slotsUsed := s₂.slotsUsed } : State).setVm s₂.vm := by
      have : s₂ = ({ s₂ with vm := (U.calling g mk a).vm } : State).setVm s₂.vm := rfl
      rw [e2] at this
      exact this
    obtain ⟨c₂, i₂, len₂, hc₂, hd₂, hf₂⟩ := hend
    have hW' : U.WarmedH s₂.vm := hW₂
    have hcc : c₂ = c := by
      have h1 : s₂.code? g.method = U.code? g.method := by
        rw [State.code?_eq, State.code?_eq, hW'.alike.method?]
      exact Option.some.inj (hc₂.symm.trans (h1.trans h.code))
    subst hcc
    have hlen : len₂ = len := by rw [hdg] at hd₂; cases hd₂; rfl
    subst hlen
    have hs₂ : s₂ = (({ U with heap := s₂.heap, slotsUsed := s₂.slotsUsed } : State).setVm s₂.vm).setTop { g with pc := g.pc + len₂, stack := v.toList ++ g.stack } := by
      refine e3.trans ?_
      rw [hf₂, State.calling_eq h.top, State.setFrames_setFrames, State.setTop_of_frames _ hr', hr]
      rfl
    have hsame : U.sameButNew ({ U with heap := s₂.heap, slotsUsed := s₂.slotsUsed } : State) L mc ms := by
      refine ⟨?_, q2, q3, q4, q5, q6⟩
      obtain ⟨t, ht, -⟩ := State.frames_cons hr
      show ({ U with heap := s₂.heap, slotsUsed := s₂.slotsUsed } : State) = { U.setFrames U.frames with heap := s₂.heap, slotsUsed := s₂.slotsUsed }
      rw [State.setFrames_self ht]
    subst hg
    refine Or.inl ⟨v, ⟨(({ U with heap := s₂.heap, slotsUsed := s₂.slotsUsed } : State).setVm s₂.vm), Ls ++ L, c0 + mc, s0 + ms⟩,
      ⟨X.admits, X.cas, X.clock, X.frames, X.room, X.hears, X.method, X.code, (X.here.setHeapUsed s₂.heap s₂.slotsUsed).setVm hW'.alike, X.tail, State.WarmedH.trans X.warmed hW', X.limits, X.bytes, X.same.trans (hsame.setVm s.vm)⟩,
      ⟨g, mk, s₂, L, rfl, rfl, hqc, rfl, hL, rfl, rfl⟩, ?_⟩
    show Steps p.tables e below _ ((({ U with heap := s₂.heap, slotsUsed := s₂.slotsUsed } : State).setVm s₂.vm).setTop { g with pc := g.pc + len₂, stack := v.toList ++ g.stack })
    rw [← hs₂]
    exact hsteps
  · obtain ⟨e2, q2, q3, q4, q5, q6⟩ := id hsm
    have e3 : s₂ = ({ (U.calling g mk a).setFrames s₂.frames with heap := s₂.heap, slotsUsed := s₂.slotsUsed } : State).setVm s₂.vm := by
      have : s₂ = ({ s₂ with vm := (U.calling g mk a).vm } : State).setVm s₂.vm := rfl
      rw [e2] at this
      exact this
    have hf₂ : s₂.frames = .throwing q :: .java g :: U.frames.tail := hend
    have hW' : U.WarmedH s₂.vm := hW₂
    have hs₂ : s₂ = ((({ U with heap := s₂.heap, slotsUsed := s₂.slotsUsed } : State).setVm s₂.vm).setTop g).pushFrame (.throwing q) := by
      refine e3.trans ?_
      rw [hf₂, State.calling_eq h.top, State.setFrames_setFrames, State.pushFrame, State.frames_setTop _ hr', State.setTop_of_frames _ hr', State.setFrames_setFrames, hr]
      rfl
    have hsame : U.sameButNew ({ U with heap := s₂.heap, slotsUsed := s₂.slotsUsed } : State) L mc ms := by
      refine ⟨?_, q2, q3, q4, q5, q6⟩
      obtain ⟨t, ht, -⟩ := State.frames_cons hr
      show ({ U with heap := s₂.heap, slotsUsed := s₂.slotsUsed } : State) = { U.setFrames U.frames with heap := s₂.heap, slotsUsed := s₂.slotsUsed }
      rw [State.setFrames_self ht]
    subst hg
    refine Or.inr ⟨q, ⟨(({ U with heap := s₂.heap, slotsUsed := s₂.slotsUsed } : State).setVm s₂.vm), Ls ++ L, c0 + mc, s0 + ms⟩,
      ⟨X.admits, X.cas, X.clock, X.frames, X.room, X.hears, X.method, X.code, (X.here.setHeapUsed s₂.heap s₂.slotsUsed).setVm hW'.alike, X.tail, State.WarmedH.trans X.warmed hW', X.limits, X.bytes, X.same.trans (hsame.setVm s.vm)⟩,
      ⟨g, mk, s₂, L, E, ce, rfl, rfl, hx, hce, hcv, hcl, rfl, hL, rfl, rfl⟩, ?_⟩
    show Steps p.tables e below _ (((({ U with heap := s₂.heap, slotsUsed := s₂.slotsUsed } : State).setVm s₂.vm).setTop g).pushFrame (.throwing q))
    rw [← hs₂]
    exact hsteps
end
variable {p : Program} {l : Launch} {e : Env} {R : Room} {s : State} {m : MethodId} {args : Array Value} {below : List Frame} {meth : Method} {c : Code} {T : State} {H : Heap} {locs : List Loc} {cells slots : Nat}
theorem vx_callVX (X : Stand p l e R s m args below meth c T locs cells slots) (hexec : p.tables.exec = Jvm.exec) {own C : String} {index : Nat} {y : MethodName} {bytes : ByteArray} {maxL : Nat} {ret : Option FieldType} {hh : List (Nat × Nat × Nat × Nat)}
    (hown : s.vm.findClass own = some m.cls) (hlink : (Cond.methodLink own index y).before args s = true) (hinst : (Cond.instanceMethod y).before args s = true) (hsel : (Cond.selects C y y).before args s = true)
    (hcode : (Cond.codeWith y bytes maxL ret hh).before args s = true) (hy : y.cls ≠ "java/lang/invoke/MethodHandle" ∧ y.cls ≠ "java/lang/invoke/VarHandle")
    {W9 : Nat} {Pre : Pt → Array Value → Prop} {Post : Pt → Array Value → Option Value → Pt → Prop} {PostX : Pt → Array Value → Addr → Pt → Prop} (hK : vx_Back l R p e below s args y 3 W9 Pre Post PostX)
    {b : Addr} {cellB : Cell} (hcell : T.heap[b]? = some cellB) (hobj : cellB.vm.isStatics = false) (hcls : s.vm.findClass C = some cellB.cls)
    {g : JFrame} (hg : g.method = m) (hsize : g.locals.size = c.maxLocals) {argsL rest : List Value} (hlen : ∀ sig, parseMethodDescriptor y.desc = some sig → argsL.length = sig.parameters.length)
    (hstack : g.stack = argsL.reverse ++ .ref b :: rest) (hW : 2 * g.monitorRoom + (rest.map fun v => v.category).sum ≤ W9) (hdg : decode c.code g.pc = .ok (.invokevirtual index, 3))
    (hpre : ∀ vm₁, s.WarmedH vm₁ → Pre ⟨T.setVm vm₁, locs, cells, slots⟩ (Value.ref b :: argsL).toArray) :
    (∃ (v : Option Value) (vm₁ : Vm) (B : Pt), s.WarmedH vm₁ ∧ Stand p l e R s m args below meth c B.U B.locs B.cells B.slots ∧ Post ⟨T.setVm vm₁, locs, cells, slots⟩ (Value.ref b :: argsL).toArray v B ∧
      ∀ target, Steps p.tables e below (B.U.setTop { g with pc := g.pc + 3, stack := v.toList ++ rest }) target → Steps p.tables e below (T.setTop g) target) ∨
    (∃ (q : Addr) (vm₁ : Vm) (B : Pt), s.WarmedH vm₁ ∧ Stand p l e R s m args below meth c B.U B.locs B.cells B.slots ∧ PostX ⟨T.setVm vm₁, locs, cells, slots⟩ (Value.ref b :: argsL).toArray q B ∧
      Steps p.tables e below (T.setTop g) ((B.U.setTop { g with stack := rest }).pushFrame (.throwing q))) := by
  obtain ⟨mk, methM, hnamed, hmethM, hstM, habM⟩ := Cond.instanceMethod_spec hinst
  obtain ⟨m8, methM', cM, hn8, hmethM', -, -, -, -, -, -, hsigM⟩ := Cond.codeWith_spec hcode
  cases Option.some.inj (hn8.symm.trans hnamed)
  cases hmethM.symm.trans hmethM'
  obtain ⟨c2, r2, m2, q1, q2, q3, q4, kP, hkP, hkPi⟩ := Cond.selects_spec hsel
  cases hcls.symm.trans q1
  cases (State.methodFound?_of_named hnamed hy).symm.trans q2
  cases hnamed.symm.trans q3
  have hselP : selectMethod e.platform s.vm cellB.cls mk = .method mk := by rw [Launch.admits_selectMethod X.admits]; exact q4
  obtain ⟨vm₁, X₁, hstep₁⟩ := X.invokevirtual hexec hown hlink hnamed hmethM hstM hkP hkPi hy (a := b) (cell := cellB) hcell
    (fun z h => by rw [h] at hobj; cases hobj) hselP hmethM habM hkP hkPi (g := g) hg (argsL := argsL) (rest := rest) (hlen _ hsigM) hstack hdg
  rcases hK m meth c ⟨T.setVm vm₁, locs, cells, slots⟩ { g with stack := rest } (.invokevirtual index) mk (Value.ref b :: argsL).toArray X₁ hg hsize hdg hW (X₁.named hnamed) (hpre vm₁ X₁.warmed) with ⟨v, B, X', hpost, hsteps⟩ | ⟨q, B, X', hpost, hsteps⟩
  · exact Or.inl ⟨v, vm₁, B, X₁.warmed, X', hpost, fun target h => hstep₁ _ fun acts => by rw [doInvoke_state]; exact hsteps.trans h⟩
  · exact Or.inr ⟨q, vm₁, B, X₁.warmed, X', hpost, hstep₁ _ fun acts => by rw [doInvoke_state]; exact hsteps⟩
theorem vx_callSX (X : Stand p l e R s m args below meth c T locs cells slots) (hexec : p.tables.exec = Jvm.exec) {own : String} {index : Nat} {y : MethodName} {bytes : ByteArray} {maxL : Nat} {ret : Option FieldType} {hh : List (Nat × Nat × Nat × Nat)}
    (hown : s.vm.findClass own = some m.cls) (hlink : (Cond.methodLink own index y).before args s = true) (hstat : (Cond.static y).before args s = true) (hinit : (Cond.initialized y.cls).before args s = true)
    (hcode : (Cond.codeWith y bytes maxL ret hh).before args s = true) (hy : y.cls ≠ "java/lang/invoke/MethodHandle" ∧ y.cls ≠ "java/lang/invoke/VarHandle")
    {W9 : Nat} {Pre : Pt → Array Value → Prop} {Post : Pt → Array Value → Option Value → Pt → Prop} {PostX : Pt → Array Value → Addr → Pt → Prop} (hK : vx_Back l R p e below s args y 3 W9 Pre Post PostX)
    {g : JFrame} (hg : g.method = m) (hsize : g.locals.size = c.maxLocals) {argsL rest : List Value} (hlen : ∀ sig, parseMethodDescriptor y.desc = some sig → argsL.length = sig.parameters.length)
    (hstack : g.stack = argsL.reverse ++ rest) (hW : 2 * g.monitorRoom + (rest.map fun v => v.category).sum ≤ W9) (hdg : decode c.code g.pc = .ok (.invokestatic index, 3))
    (hpre : ∀ vm₁, s.WarmedH vm₁ → Pre ⟨T.setVm vm₁, locs, cells, slots⟩ argsL.toArray) :
    (∃ (v : Option Value) (vm₁ : Vm) (B : Pt), s.WarmedH vm₁ ∧ Stand p l e R s m args below meth c B.U B.locs B.cells B.slots ∧ Post ⟨T.setVm vm₁, locs, cells, slots⟩ argsL.toArray v B ∧
      ∀ target, Steps p.tables e below (B.U.setTop { g with pc := g.pc + 3, stack := v.toList ++ rest }) target → Steps p.tables e below (T.setTop g) target) ∨
    (∃ (q : Addr) (vm₁ : Vm) (B : Pt), s.WarmedH vm₁ ∧ Stand p l e R s m args below meth c B.U B.locs B.cells B.slots ∧ PostX ⟨T.setVm vm₁, locs, cells, slots⟩ argsL.toArray q B ∧
      Steps p.tables e below (T.setTop g) ((B.U.setTop { g with stack := rest }).pushFrame (.throwing q))) := by
  obtain ⟨mk, methM, cM, hnamed, hmethM, -, -, -, -, -, -, hsigM⟩ := Cond.codeWith_spec hcode
  have hstatic : methM.isStatic = true := Cond.static_spec hnamed hmethM hstat
  obtain ⟨kP, hkP, -⟩ := className_of_methodNamed hnamed
  have hinitP : kP.init = .initialized := Cond.initialized_spec (findClass_of_methodNamed hnamed) hkP hinit
  obtain ⟨vm₁, X₁, hstep₁⟩ := X.invokestatic hexec hown hlink hnamed hmethM hstatic hkP hinitP hy (g := g) hg (argsL := argsL) (rest := rest) (hlen _ hsigM) hstack hdg
  rcases hK m meth c ⟨T.setVm vm₁, locs, cells, slots⟩ { g with stack := rest } (.invokestatic index) mk argsL.toArray X₁ hg hsize hdg hW (X₁.named hnamed) (hpre vm₁ X₁.warmed) with ⟨v, B, X', hpost, hsteps⟩ | ⟨q, B, X', hpost, hsteps⟩
  · exact Or.inl ⟨v, vm₁, B, X₁.warmed, X', hpost, fun target h => hstep₁ _ fun acts => by rw [doInvoke_state]; exact hsteps.trans h⟩
  · exact Or.inr ⟨q, vm₁, B, X₁.warmed, X', hpost, hstep₁ _ fun acts => by rw [doInvoke_state]; exact hsteps⟩
theorem vx_callVW (X : Stand p l e R s m args below meth c T locs cells slots) (hexec : p.tables.exec = Jvm.exec) {own C : String} {index : Nat} {y : MethodName} {bytes : ByteArray} {maxL : Nat} {ret : Option FieldType} {hh : List (Nat × Nat × Nat × Nat)}
    (hown : s.vm.findClass own = some m.cls) (hlink : (Cond.methodLink own index y).before args s = true) (hinst : (Cond.instanceMethod y).before args s = true) (hsel : (Cond.selects C y y).before args s = true)
    (hcode : (Cond.codeWith y bytes maxL ret hh).before args s = true) (hy : y.cls ≠ "java/lang/invoke/MethodHandle" ∧ y.cls ≠ "java/lang/invoke/VarHandle")
    {W9 : Nat} {Pre : Pt → Array Value → Prop} {Post : Pt → Array Value → Option Value → Pt → Prop} (hK : Back l R p e below s args y 3 W9 Pre Post)
    {b : Addr} {cellB : Cell} (hcell : T.heap[b]? = some cellB) (hobj : cellB.vm.isStatics = false) (hcls : s.vm.findClass C = some cellB.cls)
    {g : JFrame} (hg : g.method = m) (hsize : g.locals.size = c.maxLocals) {argsL rest : List Value} (hlen : ∀ sig, parseMethodDescriptor y.desc = some sig → argsL.length = sig.parameters.length)
    (hstack : g.stack = argsL.reverse ++ .ref b :: rest) (hW : 2 * g.monitorRoom + (rest.map fun v => v.category).sum ≤ W9) (hdg : decode c.code g.pc = .ok (.invokevirtual index, 3))
    (hpre : ∀ vm₁, s.WarmedH vm₁ → Pre ⟨T.setVm vm₁, locs, cells, slots⟩ (Value.ref b :: argsL).toArray) :
    ∃ (v : Option Value) (vm₁ : Vm) (B : Pt), s.WarmedH vm₁ ∧ Stand p l e R s m args below meth c B.U B.locs B.cells B.slots ∧ Post ⟨T.setVm vm₁, locs, cells, slots⟩ (Value.ref b :: argsL).toArray v B ∧
      ∀ target, Steps p.tables e below (B.U.setTop { g with pc := g.pc + 3, stack := v.toList ++ rest }) target → Steps p.tables e below (T.setTop g) target := by
  obtain ⟨mk, methM, hnamed, hmethM, hstM, habM⟩ := Cond.instanceMethod_spec hinst
  obtain ⟨m8, methM', cM, hn8, hmethM', -, -, -, -, -, -, hsigM⟩ := Cond.codeWith_spec hcode
  cases Option.some.inj (hn8.symm.trans hnamed)
  cases hmethM.symm.trans hmethM'
  obtain ⟨c2, r2, m2, q1, q2, q3, q4, kP, hkP, hkPi⟩ := Cond.selects_spec hsel
  cases hcls.symm.trans q1
  cases (State.methodFound?_of_named hnamed hy).symm.trans q2
  cases hnamed.symm.trans q3
  have hselP : selectMethod e.platform s.vm cellB.cls mk = .method mk := by rw [Launch.admits_selectMethod X.admits]; exact q4
  obtain ⟨vm₁, X₁, hstep₁⟩ := X.invokevirtual hexec hown hlink hnamed hmethM hstM hkP hkPi hy (a := b) (cell := cellB) hcell
    (fun z h => by rw [h] at hobj; cases hobj) hselP hmethM habM hkP hkPi (g := g) hg (argsL := argsL) (rest := rest) (hlen _ hsigM) hstack hdg
  obtain ⟨v, B, X', hpost, hsteps⟩ := hK m meth c ⟨T.setVm vm₁, locs, cells, slots⟩ { g with stack := rest } (.invokevirtual index) mk (Value.ref b :: argsL).toArray X₁ hg hsize hdg hW (X₁.named hnamed) (hpre vm₁ X₁.warmed)
  exact ⟨v, vm₁, B, X₁.warmed, X', hpost, fun target h => hstep₁ _ fun acts => by rw [doInvoke_state]; exact hsteps.trans h⟩
abbrev vx_CVW (R : Room) (s : State) (args : Array Value) (own C : String) (index : Nat) (y : MethodName) (bytes : ByteArray) (maxL : Nat) (ret : Option FieldType) (hh : List (Nat × Nat × Nat × Nat)) (ws : List Cond) (rm : Room) (mc ms n : Nat) : Prop :=
  (rm.cells = mc ∧ rm.slots = ms ∧ rm.frames + 1 ≤ R.frames ∧ 8 + (maxL + 11) + rm.locals ≤ R.locals ∧ (∀ w ∈ ws, ∀ (a' : Array Value) (U : State), s.WarmedH U.vm → w.before a' U = true) ∧ Cond.codeWith y bytes maxL ret hh ∈ ws) ∧
  (Cond.codeWith y bytes maxL ret hh).before args s = true ∧ (Cond.initialized y.cls).before args s = true ∧ (y.cls ≠ "java/lang/invoke/MethodHandle" ∧ y.cls ≠ "java/lang/invoke/VarHandle") ∧
  (∀ sig, parseMethodDescriptor y.desc = some sig → n = sig.parameters.length) ∧ (Cond.methodLink own index y).before args s = true ∧ (Cond.instanceMethod y).before args s = true ∧ (Cond.selects C y y).before args s = true
theorem vx_cwVW {own C : String} {index maxL mc ms : Nat} {y : MethodName} {bytes : ByteArray} {ret : Option FieldType} {hh : List (Nat × Nat × Nat × Nat)} {Ts ws ws' : List Cond} {rm : Room} (n : Nat) (ht : ∀ w ∈ Ts, w.before args s = true) (hT : GoodIn Ts (wsV own index C y ws)) (hw : ws = Cond.codeWith y bytes maxL ret hh :: ws') (hrc : rm.cells = mc) (hrs : rm.slots = ms)
    (hd : y.cls = C ∧ y.cls ≠ "java/lang/invoke/MethodHandle" ∧ y.cls ≠ "java/lang/invoke/VarHandle" ∧ (parseMethodDescriptor y.desc).map (fun d => d.parameters.length) = some n) (hR : rm.frames + 1 ≤ R.frames ∧ 8 + (maxL + 11) + rm.locals ≤ R.locals) :
    vx_CVW R s args own C index y bytes maxL ret hh ws rm mc ms n := by
  obtain ⟨hC, hd⟩ := hd
  subst hC
  have ok : ∀ w ∈ wsV own index y.cls y ws, w.before args s = true := fun w h => ht w (hT w h).1
  have hG : GoodIn Ts ws := fun w h => hT w (by unfold wsV; exact List.mem_append_right _ h)
  have hc : Cond.codeWith y bytes maxL ret hh ∈ ws := by rw [hw]; exact List.mem_cons_self
  refine ⟨⟨hrc, hrs, hR.1, hR.2, pay_in ht hG, hc⟩, ht _ (hG _ hc).1, ok _ (by simp [wsV]), ⟨hd.1, hd.2.1⟩, fun sig h => ?_, ok _ (by simp [wsV]), ok _ (by simp [wsV]), ok _ (by simp [wsV])⟩
  have h2 := hd.2.2
  rw [h] at h2
  exact (Option.some.inj h2).symm
theorem vx_runVW {y : MethodName} {bytes cc : ByteArray} {maxL nL mc ms n index : Nat} {ret : Option FieldType} {hh : List (Nat × Nat × Nat × Nat)} {ws : List Cond} {rm : Room} {Pc : Array Value → State → Prop} {Qc : Array Value → State → Outcome → State → Prop} {free : Addr → Prop} {Ts : List Cond} {own C : String} {b : Addr} {As rest : List Value} {g : JFrame}
    (S : CallFix p m c cc nL s args Ts own) (hM : Met l y ws rm Pc Qc mc ms free) (cw : vx_CVW R s args own C index y bytes maxL ret hh ws rm mc ms n) (hp : PreV s H C b Pc As)
    (hg : g.method = m) (hn : As.length = n) (hsize : g.locals.size = nL) (hstack : g.stack = As.reverse ++ .ref b :: rest) (hW : 2 * g.monitorRoom + (rest.map fun v => v.category).sum ≤ 8) (hdg : decode cc g.pc = .ok (.invokevirtual index, 3)) (hf : cells + mc ≤ R.cells ∧ slots + ms ≤ R.slots) :
    va_Run p l e R s m args below meth c H locs cells slots mc ms g rest (Qc (Value.ref b :: As).toArray) free := by
  obtain ⟨⟨hrc, hrs, hfr, hlo, hws, hcw⟩, hcode, hini, hy, hlen, hl, hin, hse⟩ := cw
  have hK : Back l R p e below s args y 3 8 (PreOf R mc ms Pc) (PostOf Qc mc ms free) := va_backW (hh := hh) (bytes := bytes) (maxL := maxL) (ret := ret) hM hp.1 hrc hrs hfr hlo hws hcw (fun a' U hW => word_at hW (Or.inl (by first | rfl | simp [Cond.onTables, Cond.keeps, Cond.steady])) hini)
  obtain ⟨hx, hb, hml, ho, -⟩ := S
  obtain ⟨-, ⟨cellB, hcB, hoB, hclB⟩, hPc⟩ := hp
  intro T hT X
  obtain ⟨v, vm₁, ⟨U', l2, c2, s2⟩, hW₁, X', ⟨g', mk, t, L, e1, e2, hq, h1, hL, h2, h3⟩, st⟩ := vx_callVW X hx (C := C) (hh := hh) (bytes := bytes) (maxL := maxL) (ret := ret) ho hl hin hse hcode hy hK (by rw [hT]; exact hcB) hoB hclB hg (hsize.trans hml.symm) (argsL := As) (rest := rest) (fun sig h => hn.trans (hlen sig h)) hstack hW (by rw [hb]; exact hdg)
    (fun vm₁ hW₁ => ⟨hf.1, hf.2, hPc (T.setVm vm₁) hT hW₁⟩)
  dsimp only [Pt.U, Pt.locs, Pt.cells, Pt.slots] at X' e1 e2 h1 h2 h3 st
  subst h1; subst h2; subst h3
  exact ⟨v, (T.setVm vm₁).calling g' mk (Value.ref b :: As).toArray, t, U', L, hT, X', hL, e1, e2, hq, st⟩
section
variable {y : MethodName} {bytes cc : ByteArray} {maxL nL mc ms n index : Nat} {ret : Option FieldType} {ws : List Cond} {rm : Room} {Pc : Array Value → State → Prop} {Qc : Array Value → State → Outcome → State → Prop} {XC : String → State → State → Prop} {free : Addr → Prop} {Ts : List Cond} {own C : String} {b : Addr} {As rest : List Value} {g : JFrame}
theorem vx_runVX {hh : List (Nat × Nat × Nat × Nat)} (S : CallFix p m c cc nL s args Ts own) (hM : vx_Met l y ws rm Pc Qc XC mc ms free) (cw : vx_CVW R s args own C index y bytes maxL ret hh ws rm mc ms n) (hp : PreV s H C b Pc As)
    (hg : g.method = m) (hn : As.length = n) (hsize : g.locals.size = nL) (hstack : g.stack = As.reverse ++ .ref b :: rest) (hW : 2 * g.monitorRoom + (rest.map fun v => v.category).sum ≤ 8) (hdg : decode cc g.pc = .ok (.invokevirtual index, 3)) (hf : cells + mc ≤ R.cells ∧ slots + ms ≤ R.slots) :
    vx_Run p l e R s m args below meth c H locs cells slots mc ms g rest (Qc (Value.ref b :: As).toArray) XC free := by
  obtain ⟨⟨hrc, hrs, hfr, hlo, hws, hcw⟩, hcode, hini, hy, hlen, hl, hin, hse⟩ := cw
  have hK : vx_Back l R p e below s args y 3 8 (PreOf R mc ms Pc) (PostOf Qc mc ms free) (vx_Post XC mc ms free) := vx_backW (hh := hh) (bytes := bytes) (maxL := maxL) (ret := ret) hM hp.1 hrc hrs hfr hlo hws hcw (fun a' U hW => word_at hW (Or.inl (by first | rfl | simp [Cond.onTables, Cond.keeps, Cond.steady])) hini)
  obtain ⟨hx, hb, hml, ho, -⟩ := S
  obtain ⟨-, ⟨cellB, hcB, hoB, hclB⟩, hPc⟩ := hp
  intro T hT X
  rcases vx_callVX X hx (C := C) (hh := hh) (bytes := bytes) (maxL := maxL) (ret := ret) ho hl hin hse hcode hy hK (by rw [hT]; exact hcB) hoB hclB hg (hsize.trans hml.symm) (argsL := As) (rest := rest) (fun sig h => hn.trans (hlen sig h)) hstack hW (by rw [hb]; exact hdg)
    (fun vm₁ hW₁ => ⟨hf.1, hf.2, hPc (T.setVm vm₁) hT hW₁⟩) with ⟨v, vm₁, ⟨U', l2, c2, s2⟩, hW₁, X', ⟨g', mk, t, L, e1, e2, hq, h1, hL, h2, h3⟩, st⟩ | ⟨q, vm₁, ⟨U', l2, c2, s2⟩, hW₁, X', ⟨g', mk, t, L, E, ce, e1, e2, hq, hce, hcv, hcl, h1, hL, h2, h3⟩, st⟩
  · dsimp only [Pt.U, Pt.locs, Pt.cells, Pt.slots] at X' e1 e2 h1 h2 h3 st
    subst h1; subst h2; subst h3
    exact Or.inl ⟨v, (T.setVm vm₁).calling g' mk (Value.ref b :: As).toArray, t, U', L, hT, X', hL, e1, e2, hq, st⟩
  · dsimp only [Pt.U, Pt.locs, Pt.cells, Pt.slots] at X' e1 e2 h1 h2 h3 st hcl
    subst h1; subst h2; subst h3
    exact Or.inr ⟨q, (T.setVm vm₁).calling g' mk (Value.ref b :: As).toArray, t, U', L, E, ce, hT, X', hL, e1, e2, hq, hce, hcv, vx_cls hW₁ hcl, st⟩
theorem vx_runSX {hh : List (Nat × Nat × Nat × Nat)} (S : CallFix p m c cc nL s args Ts own) (hM : vx_Met l y ws rm Pc Qc XC mc ms free) (cw : vx_CSW R s args own index y bytes maxL ret hh ws rm mc ms n) (hp : PreS s H Pc As)
    (hg : g.method = m) (hn : As.length = n) (hsize : g.locals.size = nL) (hstack : g.stack = As.reverse ++ rest) (hW : 2 * g.monitorRoom + (rest.map fun v => v.category).sum ≤ 8) (hdg : decode cc g.pc = .ok (.invokestatic index, 3)) (hf : cells + mc ≤ R.cells ∧ slots + ms ≤ R.slots) :
    vx_Run p l e R s m args below meth c H locs cells slots mc ms g rest (Qc As.toArray) XC free := by
  obtain ⟨⟨hrc, hrs, hfr, hlo, hws, hcw⟩, hcode, hini, hy, hlen, hl, hstt⟩ := cw
  have hK : vx_Back l R p e below s args y 3 8 (PreOf R mc ms Pc) (PostOf Qc mc ms free) (vx_Post XC mc ms free) := vx_backW (hh := hh) (bytes := bytes) (maxL := maxL) (ret := ret) hM hp.1 hrc hrs hfr hlo hws hcw (fun a' U hW => word_at hW (Or.inl (by first | rfl | simp [Cond.onTables, Cond.keeps, Cond.steady])) hini)
  obtain ⟨hx, hb, hml, ho, -⟩ := S
  intro T hT X
  rcases vx_callSX X hx (hh := hh) (bytes := bytes) (maxL := maxL) (ret := ret) ho hl hstt hini hcode hy hK hg (hsize.trans hml.symm) (argsL := As) (rest := rest) (fun sig h => hn.trans (hlen sig h)) hstack hW (by rw [hb]; exact hdg)
    (fun vm₁ hW₁ => ⟨hf.1, hf.2, hp.2 (T.setVm vm₁) hT hW₁⟩) with ⟨v, vm₁, ⟨U', l2, c2, s2⟩, hW₁, X', ⟨g', mk, t, L, e1, e2, hq, h1, hL, h2, h3⟩, st⟩ | ⟨q, vm₁, ⟨U', l2, c2, s2⟩, hW₁, X', ⟨g', mk, t, L, E, ce, e1, e2, hq, hce, hcv, hcl, h1, hL, h2, h3⟩, st⟩
  · dsimp only [Pt.U, Pt.locs, Pt.cells, Pt.slots] at X' e1 e2 h1 h2 h3 st
    subst h1; subst h2; subst h3
    exact Or.inl ⟨v, (T.setVm vm₁).calling g' mk As.toArray, t, U', L, hT, X', hL, e1, e2, hq, st⟩
  · dsimp only [Pt.U, Pt.locs, Pt.cells, Pt.slots] at X' e1 e2 h1 h2 h3 st hcl
    subst h1; subst h2; subst h3
    exact Or.inr ⟨q, (T.setVm vm₁).calling g' mk As.toArray, t, U', L, E, ce, hT, X', hL, e1, e2, hq, hce, hcv, vx_cls hW₁ hcl, st⟩
end
end VXH
theorem vx_ofWH {l : Launch} {y : MethodName} {ws ws' : List Cond} {rm : Room} {Pc : Array Value → State → Prop} {Qc : Array Value → State → Outcome → State → Prop} {XC : String → State → State → Prop} {mc ms : Nat} {free : Addr → Prop} {cc : ByteArray} {maxL : Nat} {ret : Option FieldType} {hh : List (Nat × Nat × Nat × Nat)}
    (hy : plainName y.cls = true) (hw : ws = Cond.codeWith y cc maxL ret hh :: ws')
    (body : ∀ p e s m args below meth c s₁, BodyLoose p l y (headSpec ws rm) cc maxL ret e s m args below meth c s₁ → c.maxLocals = maxL → Pc args s →
      W p l e (headSpec ws rm).room s m args below meth c s.heap [] 0 0 (vx_MQ below Qc XC args s mc ms free) (entryFrame m args maxL)) : vx_Met l y ws rm Pc Qc XC mc ms free := by
  refine MetFree.of_bodyS (code := cc) (maxLocals := maxL) (ret := ret) hy ?_ ?_
  · intro args s m h hn
    obtain ⟨m9, meth, c, hn9, h1, h2, h3, h4, -, h5, h6, -⟩ := Cond.codeWith_spec (atoms_spec (ws := ws) h _ (by rw [hw]; exact List.mem_cons_self))
    cases hn.symm.trans hn9
    exact ⟨meth, c, h1, h2, h3, h4, h5, h6⟩
  · intro p e s m args below meth c s₁ B hml hP _
    have hh0 : s₁.heap = s.heap := by rw [B.state]; rfl
    obtain ⟨t, a1, o, b1, b2, b3⟩ := body p e s m args below meth c s₁ B hml hP s₁ hh0 (Stand.of_body B)
    exact ⟨t, o, a1, b1, b2, b3⟩
/-! ===== END ===== -/
end
section
/-! ===== printed names, fields ===== -/
def RX0 : String := "Hearingpay$Hearing"
def TX0 : u_T := fun k => match k with
  | 0 => ("Hearingpay$Hearing", "number", "I", true)
  | 1 => ("Hearingpay$Hearing", "matter", "LHearingpay$Matter;", true)
  | 2 => ("Hearingpay$Hearing", "hours", "I", true)
  | 3 => ("Hearingpay$Hearing", "charges", "[I", true)
  | 4 => ("Hearingpay$Hearing", "state", "I", false)
  | 5 => ("Hearingpay$Hearing", "room", "I", false)
  | 6 => ("Hearingpay$Hearing", "interpreter", "I", false)
  | 7 => ("Hearingpay$Hearing", "from", "I", false)
  | 8 => ("Hearingpay$Hearing", "isFirstTold", "Z", false)
  | _ => ("Hearingpay$Hearing", "isSecondTold", "Z", false)
def tyX0 : Nat → FieldType := fun k => match k with
  | 0 => .int
  | 1 => .object "Hearingpay$Matter"
  | 2 => .int
  | 3 => .array .int
  | 4 => .int
  | 5 => .int
  | 6 => .int
  | 7 => .int
  | 8 => .boolean
  | _ => .boolean
abbrev wsX00 : List Cond := u_ws RX0 TX0 10
theorem nmX0 : ∀ a, a < 10 → ∀ b, b < 10 → a ≠ b → (TX0 a).2.1 ≠ (TX0 b).2.1 := by decide +kernel
theorem tyX0_ok : ∀ k, k < 10 → parseFieldDescriptor (TX0 k).2.2.1 = some (tyX0 k) := by decide +kernel
abbrev cX0_init : ByteArray := prog_2_method_1_code
def yX0_init : MethodName := ⟨RX0, "<init>", "(ILHearingpay$Matter;I)V"⟩
abbrev cX0_settleAt : ByteArray := prog_2_method_2_code
def yX0_settleAt : MethodName := ⟨RX0, "settleAt", "(III)V"⟩
abbrev cX0_takesPartOf : ByteArray := prog_2_method_3_code
def yX0_takesPartOf : MethodName := ⟨RX0, "takesPartOf", "(II)Z"⟩
abbrev cX0_needs : ByteArray := prog_2_method_4_code
def yX0_needs : MethodName := ⟨RX0, "needs", "(II)Z"⟩
abbrev cX0_reasonAgainst : ByteArray := prog_2_method_5_code
def yX0_reasonAgainst : MethodName := ⟨RX0, "reasonAgainst", "(LHearingpay$Matter;II)I"⟩
abbrev cX0_tell : ByteArray := prog_2_method_6_code
def yX0_tell : MethodName := ⟨RX0, "tell", "(I)V"⟩
abbrev cX0_notices : ByteArray := prog_2_method_7_code
def yX0_notices : MethodName := ⟨RX0, "notices", "()I"⟩
abbrev cX0_charged : ByteArray := prog_2_method_8_code
def yX0_charged : MethodName := ⟨RX0, "charged", "()I"⟩
abbrev cX0_end : ByteArray := prog_2_method_9_code
def yX0_end : MethodName := ⟨RX0, "end", "()V"⟩
def RX1 : String := "Hearingpay$Interpreter"
def TX1 : u_T := fun k => match k with
  | 0 => ("Hearingpay$Interpreter", "languages", "I", false)
  | 1 => ("Hearingpay$Interpreter", "price", "I", false)
  | 2 => ("Hearingpay$Interpreter", "paidHours", "[I", true)
  | 3 => ("Hearingpay$Interpreter", "payers", "[LHearingpay$Matter;", true)
  | _ => ("Hearingpay$Interpreter", "amounts", "[I", true)
def tyX1 : Nat → FieldType := fun k => match k with
  | 0 => .int
  | 1 => .int
  | 2 => .array .int
  | 3 => .array (.object "Hearingpay$Matter")
  | _ => .array .int
abbrev wsX10 : List Cond := u_ws RX1 TX1 5
theorem nmX1 : ∀ a, a < 5 → ∀ b, b < 5 → a ≠ b → (TX1 a).2.1 ≠ (TX1 b).2.1 := by decide +kernel
theorem tyX1_ok : ∀ k, k < 5 → parseFieldDescriptor (TX1 k).2.2.1 = some (tyX1 k) := by decide +kernel
abbrev cX1_init : ByteArray := prog_3_method_1_code
def yX1_init : MethodName := ⟨RX1, "<init>", "()V"⟩
abbrev cX1_placeOf : ByteArray := prog_3_method_2_code
def yX1_placeOf : MethodName := ⟨RX1, "placeOf", "(I)I"⟩
abbrev cX1_knows : ByteArray := prog_3_method_3_code
def yX1_knows : MethodName := ⟨RX1, "knows", "(I)Z"⟩
abbrev cX1_payer : ByteArray := prog_3_method_4_code
def yX1_payer : MethodName := ⟨RX1, "payer", "(II)LHearingpay$Matter;"⟩
abbrev cX1_keep : ByteArray := prog_3_method_5_code
def yX1_keep : MethodName := ⟨RX1, "keep", "(ILHearingpay$Matter;I)V"⟩
abbrev cX1_take : ByteArray := prog_3_method_6_code
def yX1_take : MethodName := ⟨RX1, "take", "(IILHearingpay$Matter;)I"⟩
abbrev cX1_hoursPaidBy : ByteArray := prog_3_method_7_code
def yX1_hoursPaidBy : MethodName := ⟨RX1, "hoursPaidBy", "(LHearingpay$Matter;I)I"⟩
def RX2 : String := "Hearingpay$Matter"
def TX2 : u_T := fun k => match k with
  | 0 => ("Hearingpay$Matter", "number", "I", true)
  | 1 => ("Hearingpay$Matter", "judge", "I", true)
  | 2 => ("Hearingpay$Matter", "first", "I", true)
  | 3 => ("Hearingpay$Matter", "second", "I", true)
  | 4 => ("Hearingpay$Matter", "language", "I", true)
  | 5 => ("Hearingpay$Matter", "state", "I", false)
  | 6 => ("Hearingpay$Matter", "balance", "I", false)
  | _ => ("Hearingpay$Matter", "end", "I", false)
def tyX2 : Nat → FieldType := fun k => match k with
  | 0 => .int
  | 1 => .int
  | 2 => .int
  | 3 => .int
  | 4 => .int
  | 5 => .int
  | 6 => .int
  | _ => .int
abbrev wsX20 : List Cond := u_ws RX2 TX2 8
theorem nmX2 : ∀ a, a < 8 → ∀ b, b < 8 → a ≠ b → (TX2 a).2.1 ≠ (TX2 b).2.1 := by decide +kernel
theorem tyX2_ok : ∀ k, k < 8 → parseFieldDescriptor (TX2 k).2.2.1 = some (tyX2 k) := by decide +kernel
abbrev cX2_init : ByteArray := prog_4_method_1_code
def yX2_init : MethodName := ⟨RX2, "<init>", "(IIIIII)V"⟩
abbrev cX2_isOpen : ByteArray := prog_4_method_2_code
def yX2_isOpen : MethodName := ⟨RX2, "isOpen", "()Z"⟩
abbrev cX2_isOf : ByteArray := prog_4_method_3_code
def yX2_isOf : MethodName := ⟨RX2, "isOf", "(I)Z"⟩
abbrev cX2_runTerm : ByteArray := prog_4_method_4_code
def yX2_runTerm : MethodName := ⟨RX2, "runTerm", "(I)V"⟩
def RX3 : String := "Hearingpay"
def TX3 : u_T := fun k => match k with
  | 0 => ("Hearingpay", "interpreters", "[LHearingpay$Interpreter;", true)
  | 1 => ("Hearingpay", "waived", "[Z", true)
  | 2 => ("Hearingpay", "matters", "[LHearingpay$Matter;", true)
  | 3 => ("Hearingpay", "hearings", "[LHearingpay$Hearing;", true)
  | 4 => ("Hearingpay", "matterCount", "I", false)
  | 5 => ("Hearingpay", "hearingCount", "I", false)
  | _ => ("Hearingpay", "now", "I", false)
def tyX3 : Nat → FieldType := fun k => match k with
  | 0 => .array (.object "Hearingpay$Interpreter")
  | 1 => .array .boolean
  | 2 => .array (.object "Hearingpay$Matter")
  | 3 => .array (.object "Hearingpay$Hearing")
  | 4 => .int
  | 5 => .int
  | _ => .int
abbrev wsX30 : List Cond := u_ws RX3 TX3 7
theorem nmX3 : ∀ a, a < 7 → ∀ b, b < 7 → a ≠ b → (TX3 a).2.1 ≠ (TX3 b).2.1 := by decide +kernel
theorem tyX3_ok : ∀ k, k < 7 → parseFieldDescriptor (TX3 k).2.2.1 = some (tyX3 k) := by decide +kernel
abbrev cX3_init : ByteArray := prog_1_method_1_code
def yX3_init : MethodName := ⟨RX3, "<init>", "()V"⟩
abbrev cX3_interpreter : ByteArray := prog_1_method_2_code
def yX3_interpreter : MethodName := ⟨RX3, "interpreter", "(III)I"⟩
abbrev cX3_waive : ByteArray := prog_1_method_3_code
def yX3_waive : MethodName := ⟨RX3, "waive", "(IZ)Z"⟩
abbrev cX3_file : ByteArray := prog_1_method_4_code
def yX3_file : MethodName := ⟨RX3, "file", "(IIII)I"⟩
abbrev cX3_pay : ByteArray := prog_1_method_5_code
def yX3_pay : MethodName := ⟨RX3, "pay", "(II)I"⟩
abbrev cX3_decide : ByteArray := prog_1_method_6_code
def yX3_decide : MethodName := ⟨RX3, "decide", "(I)I"⟩
abbrev cX3_appeal : ByteArray := prog_1_method_7_code
def yX3_appeal : MethodName := ⟨RX3, "appeal", "(I)I"⟩
abbrev cX3_settle : ByteArray := prog_1_method_8_code
def yX3_settle : MethodName := ⟨RX3, "settle", "(IZ)I"⟩
abbrev cX3_close : ByteArray := prog_1_method_9_code
def yX3_close : MethodName := ⟨RX3, "close", "(I)I"⟩
abbrev cX3_plan : ByteArray := prog_1_method_10_code
def yX3_plan : MethodName := ⟨RX3, "plan", "(IIIII)I"⟩
abbrev cX3_move : ByteArray := prog_1_method_11_code
def yX3_move : MethodName := ⟨RX3, "move", "(IIII)I"⟩
abbrev cX3_drop : ByteArray := prog_1_method_12_code
def yX3_drop : MethodName := ⟨RX3, "drop", "(I)I"⟩
abbrev cX3_notice : ByteArray := prog_1_method_13_code
def yX3_notice : MethodName := ⟨RX3, "notice", "(II)Z"⟩
abbrev cX3_pass : ByteArray := prog_1_method_14_code
def yX3_pass : MethodName := ⟨RX3, "pass", "(I)I"⟩
abbrev cX3_clash : ByteArray := prog_1_method_15_code
def yX3_clash : MethodName := ⟨RX3, "clash", "(IIIII)I"⟩
abbrev cX3_at : ByteArray := prog_1_method_16_code
def yX3_at : MethodName := ⟨RX3, "at", "(III)I"⟩
abbrev cX3_about : ByteArray := prog_1_method_17_code
def yX3_about : MethodName := ⟨RX3, "about", "(II)I"⟩
abbrev cX3_hearing : ByteArray := prog_1_method_18_code
def yX3_hearing : MethodName := ⟨RX3, "hearing", "(II)I"⟩
abbrev cX3_paidBy : ByteArray := prog_1_method_19_code
def yX3_paidBy : MethodName := ⟨RX3, "paidBy", "(II)I"⟩
abbrev cX3_balances : ByteArray := prog_1_method_20_code
def yX3_balances : MethodName := ⟨RX3, "balances", "()I"⟩
abbrev cX3_hour : ByteArray := prog_1_method_21_code
def yX3_hour : MethodName := ⟨RX3, "hour", "()I"⟩
abbrev cX3_isIn : ByteArray := prog_1_method_22_code
def yX3_isIn : MethodName := ⟨RX3, "isIn", "(II)Z"⟩
abbrev cX3_isInOrNone : ByteArray := prog_1_method_23_code
def yX3_isInOrNone : MethodName := ⟨RX3, "isInOrNone", "(II)Z"⟩
abbrev cX3_isCalendarHour : ByteArray := prog_1_method_24_code
def yX3_isCalendarHour : MethodName := ⟨RX3, "isCalendarHour", "(I)Z"⟩
abbrev cX3_howMany : ByteArray := prog_1_method_25_code
def yX3_howMany : MethodName := ⟨RX3, "howMany", "(I)I"⟩
abbrev cX3_interpreterAt : ByteArray := prog_1_method_26_code
def yX3_interpreterAt : MethodName := ⟨RX3, "interpreterAt", "(I)LHearingpay$Interpreter;"⟩
abbrev cX3_matterAt : ByteArray := prog_1_method_27_code
def yX3_matterAt : MethodName := ⟨RX3, "matterAt", "(I)LHearingpay$Matter;"⟩
abbrev cX3_hearingAt : ByteArray := prog_1_method_28_code
def yX3_hearingAt : MethodName := ⟨RX3, "hearingAt", "(I)LHearingpay$Hearing;"⟩
abbrev cX3_isToBegin : ByteArray := prog_1_method_29_code
def yX3_isToBegin : MethodName := ⟨RX3, "isToBegin", "(LHearingpay$Hearing;)Z"⟩
abbrev cX3_isAsNeeded : ByteArray := prog_1_method_30_code
def yX3_isAsNeeded : MethodName := ⟨RX3, "isAsNeeded", "(LHearingpay$Matter;I)Z"⟩
abbrev cX3_clashReason : ByteArray := prog_1_method_31_code
def yX3_clashReason : MethodName := ⟨RX3, "clashReason", "(LHearingpay$Hearing;LHearingpay$Matter;IIII)I"⟩
abbrev cX3_put : ByteArray := prog_1_method_32_code
def yX3_put : MethodName := ⟨RX3, "put", "(LHearingpay$Hearing;III)V"⟩
abbrev cX3_leave : ByteArray := prog_1_method_33_code
def yX3_leave : MethodName := ⟨RX3, "leave", "(LHearingpay$Hearing;)V"⟩
abbrev cX3_dropAllOf : ByteArray := prog_1_method_34_code
def yX3_dropAllOf : MethodName := ⟨RX3, "dropAllOf", "(LHearingpay$Matter;)I"⟩
abbrev cX3_endHearings : ByteArray := prog_1_method_35_code
def yX3_endHearings : MethodName := ⟨RX3, "endHearings", "()I"⟩
abbrev cX3_runTerms : ByteArray := prog_1_method_36_code
def yX3_runTerms : MethodName := ⟨RX3, "runTerms", "()V"⟩
abbrev cX3_feeFor : ByteArray := prog_1_method_37_code
def yX3_feeFor : MethodName := ⟨RX3, "feeFor", "(LHearingpay$Matter;I)I"⟩
abbrev cX3_paidHoursOf : ByteArray := prog_1_method_38_code
def yX3_paidHoursOf : MethodName := ⟨RX3, "paidHoursOf", "(LHearingpay$Matter;)I"⟩
def RX4 : String := "HearingpayModel"
def TX4 : u_T := fun k => match k with
  | 0 => ("HearingpayModel", "thrown", "I", false)
  | 1 => ("HearingpayModel", "now", "I", false)
  | 2 => ("HearingpayModel", "languages", "[I", true)
  | 3 => ("HearingpayModel", "price", "[I", true)
  | 4 => ("HearingpayModel", "isWaived", "[Z", true)
  | 5 => ("HearingpayModel", "matters", "I", false)
  | 6 => ("HearingpayModel", "state", "[I", true)
  | 7 => ("HearingpayModel", "judge", "[I", true)
  | 8 => ("HearingpayModel", "first", "[I", true)
  | 9 => ("HearingpayModel", "second", "[I", true)
  | 10 => ("HearingpayModel", "language", "[I", true)
  | 11 => ("HearingpayModel", "balance", "[I", true)
  | 12 => ("HearingpayModel", "end", "[I", true)
  | 13 => ("HearingpayModel", "hearings", "I", false)
  | 14 => ("HearingpayModel", "how", "[I", true)
  | 15 => ("HearingpayModel", "matter", "[I", true)
  | 16 => ("HearingpayModel", "room", "[I", true)
  | 17 => ("HearingpayModel", "speaker", "[I", true)
  | 18 => ("HearingpayModel", "from", "[I", true)
  | 19 => ("HearingpayModel", "hours", "[I", true)
  | 20 => ("HearingpayModel", "notices", "[I", true)
  | 21 => ("HearingpayModel", "charged", "[I", true)
  | 22 => ("HearingpayModel", "payer", "[I", true)
  | _ => ("HearingpayModel", "paid", "[I", true)
def tyX4 : Nat → FieldType := fun k => match k with
  | 0 => .int
  | 1 => .int
  | 2 => .array .int
  | 3 => .array .int
  | 4 => .array .boolean
  | 5 => .int
  | 6 => .array .int
  | 7 => .array .int
  | 8 => .array .int
  | 9 => .array .int
  | 10 => .array .int
  | 11 => .array .int
  | 12 => .array .int
  | 13 => .int
  | 14 => .array .int
  | 15 => .array .int
  | 16 => .array .int
  | 17 => .array .int
  | 18 => .array .int
  | 19 => .array .int
  | 20 => .array .int
  | 21 => .array .int
  | 22 => .array .int
  | _ => .array .int
abbrev wsX40 : List Cond := u_ws RX4 TX4 24
theorem nmX4 : ∀ a, a < 24 → ∀ b, b < 24 → a ≠ b → (TX4 a).2.1 ≠ (TX4 b).2.1 := by decide +kernel
theorem tyX4_ok : ∀ k, k < 24 → parseFieldDescriptor (TX4 k).2.2.1 = some (tyX4 k) := by decide +kernel
abbrev cX4_init : ByteArray := prog_6_method_1_code
def yX4_init : MethodName := ⟨RX4, "<init>", "()V"⟩
abbrev cX4_thrown : ByteArray := prog_6_method_2_code
def yX4_thrown : MethodName := ⟨RX4, "thrown", "()I"⟩
abbrev cX4_in : ByteArray := prog_6_method_3_code
def yX4_in : MethodName := ⟨RX4, "in", "(III)Z"⟩
abbrev cX4_isMatter : ByteArray := prog_6_method_4_code
def yX4_isMatter : MethodName := ⟨RX4, "isMatter", "(I)Z"⟩
abbrev cX4_isHearing : ByteArray := prog_6_method_5_code
def yX4_isHearing : MethodName := ⟨RX4, "isHearing", "(I)Z"⟩
abbrev cX4_isSpeaker : ByteArray := prog_6_method_6_code
def yX4_isSpeaker : MethodName := ⟨RX4, "isSpeaker", "(I)Z"⟩
abbrev cX4_interpreter : ByteArray := prog_6_method_7_code
def yX4_interpreter : MethodName := ⟨RX4, "interpreter", "(III)I"⟩
abbrev cX4_waive : ByteArray := prog_6_method_8_code
def yX4_waive : MethodName := ⟨RX4, "waive", "(IZ)Z"⟩
abbrev cX4_file : ByteArray := prog_6_method_9_code
def yX4_file : MethodName := ⟨RX4, "file", "(IIII)I"⟩
abbrev cX4_pay : ByteArray := prog_6_method_10_code
def yX4_pay : MethodName := ⟨RX4, "pay", "(II)I"⟩
abbrev cX4_leaves : ByteArray := prog_6_method_11_code
def yX4_leaves : MethodName := ⟨RX4, "leaves", "(I)V"⟩
abbrev cX4_comes : ByteArray := prog_6_method_12_code
def yX4_comes : MethodName := ⟨RX4, "comes", "(I)V"⟩
abbrev cX4_decide : ByteArray := prog_6_method_13_code
def yX4_decide : MethodName := ⟨RX4, "decide", "(I)I"⟩
abbrev cX4_appeal : ByteArray := prog_6_method_14_code
def yX4_appeal : MethodName := ⟨RX4, "appeal", "(I)I"⟩
abbrev cX4_settle : ByteArray := prog_6_method_15_code
def yX4_settle : MethodName := ⟨RX4, "settle", "(IZ)I"⟩
abbrev cX4_close : ByteArray := prog_6_method_16_code
def yX4_close : MethodName := ⟨RX4, "close", "(I)I"⟩
abbrev cX4_meets : ByteArray := prog_6_method_17_code
def yX4_meets : MethodName := ⟨RX4, "meets", "(IIII)Z"⟩
abbrev cX4_clashes : ByteArray := prog_6_method_18_code
def yX4_clashes : MethodName := ⟨RX4, "clashes", "(IIIIIII)Z"⟩
abbrev cX4_reason : ByteArray := prog_6_method_19_code
def yX4_reason : MethodName := ⟨RX4, "reason", "(IIIIII)I"⟩
abbrev cX4_fits : ByteArray := prog_6_method_20_code
def yX4_fits : MethodName := ⟨RX4, "fits", "(II)Z"⟩
abbrev cX4_isOpen : ByteArray := prog_6_method_21_code
def yX4_isOpen : MethodName := ⟨RX4, "isOpen", "(I)Z"⟩
abbrev cX4_plan : ByteArray := prog_6_method_22_code
def yX4_plan : MethodName := ⟨RX4, "plan", "(IIIII)I"⟩
abbrev cX4_move : ByteArray := prog_6_method_23_code
def yX4_move : MethodName := ⟨RX4, "move", "(IIII)I"⟩
abbrev cX4_drop : ByteArray := prog_6_method_24_code
def yX4_drop : MethodName := ⟨RX4, "drop", "(I)I"⟩
abbrev cX4_notice : ByteArray := prog_6_method_25_code
def yX4_notice : MethodName := ⟨RX4, "notice", "(II)Z"⟩
abbrev cX4_ends : ByteArray := prog_6_method_26_code
def yX4_ends : MethodName := ⟨RX4, "ends", "()I"⟩
abbrev cX4_pass : ByteArray := prog_6_method_27_code
def yX4_pass : MethodName := ⟨RX4, "pass", "(I)I"⟩
abbrev cX4_clash : ByteArray := prog_6_method_28_code
def yX4_clash : MethodName := ⟨RX4, "clash", "(IIIII)I"⟩
abbrev cX4_at : ByteArray := prog_6_method_29_code
def yX4_at : MethodName := ⟨RX4, "at", "(III)I"⟩
abbrev cX4_toCome : ByteArray := prog_6_method_30_code
def yX4_toCome : MethodName := ⟨RX4, "toCome", "(I)I"⟩
abbrev cX4_about : ByteArray := prog_6_method_31_code
def yX4_about : MethodName := ⟨RX4, "about", "(II)I"⟩
abbrev cX4_hearing : ByteArray := prog_6_method_32_code
def yX4_hearing : MethodName := ⟨RX4, "hearing", "(II)I"⟩
abbrev cX4_paidBy : ByteArray := prog_6_method_33_code
def yX4_paidBy : MethodName := ⟨RX4, "paidBy", "(II)I"⟩
abbrev cX4_balances : ByteArray := prog_6_method_34_code
def yX4_balances : MethodName := ⟨RX4, "balances", "()I"⟩
abbrev cX4_hour : ByteArray := prog_6_method_35_code
def yX4_hour : MethodName := ⟨RX4, "hour", "()I"⟩
def RJ0 : String := "java/lang/String"
def RL : String := "HearingpayLaw"
abbrev cL_interpreter : ByteArray := method_3_code
def yL_interpreter : MethodName := ⟨RL, "interpreter", "(LHearingpay;III[J)I"⟩
abbrev cL_waive : ByteArray := method_4_code
def yL_waive : MethodName := ⟨RL, "waive", "(LHearingpay;IZ[J)I"⟩
abbrev cL_file : ByteArray := method_5_code
def yL_file : MethodName := ⟨RL, "file", "(LHearingpay;IIII[J)I"⟩
abbrev cL_pay : ByteArray := method_6_code
def yL_pay : MethodName := ⟨RL, "pay", "(LHearingpay;II[J)I"⟩
abbrev cL_decide : ByteArray := method_7_code
def yL_decide : MethodName := ⟨RL, "decide", "(LHearingpay;I[J)I"⟩
abbrev cL_appeal : ByteArray := method_8_code
def yL_appeal : MethodName := ⟨RL, "appeal", "(LHearingpay;I[J)I"⟩
abbrev cL_settle : ByteArray := method_9_code
def yL_settle : MethodName := ⟨RL, "settle", "(LHearingpay;IZ[J)I"⟩
abbrev cL_close : ByteArray := method_10_code
def yL_close : MethodName := ⟨RL, "close", "(LHearingpay;I[J)I"⟩
abbrev cL_plan : ByteArray := method_11_code
def yL_plan : MethodName := ⟨RL, "plan", "(LHearingpay;IIIII[J)I"⟩
abbrev cL_move : ByteArray := method_12_code
def yL_move : MethodName := ⟨RL, "move", "(LHearingpay;IIII[J)I"⟩
abbrev cL_drop : ByteArray := method_13_code
def yL_drop : MethodName := ⟨RL, "drop", "(LHearingpay;I[J)I"⟩
abbrev cL_notice : ByteArray := method_14_code
def yL_notice : MethodName := ⟨RL, "notice", "(LHearingpay;II[J)I"⟩
abbrev cL_pass : ByteArray := method_15_code
def yL_pass : MethodName := ⟨RL, "pass", "(LHearingpay;I[J)I"⟩
abbrev cL_clash : ByteArray := method_16_code
def yL_clash : MethodName := ⟨RL, "clash", "(LHearingpay;IIIII[J)I"⟩
abbrev cL_at : ByteArray := method_17_code
def yL_at : MethodName := ⟨RL, "at", "(LHearingpay;III[J)I"⟩
abbrev cL_about : ByteArray := method_18_code
def yL_about : MethodName := ⟨RL, "about", "(LHearingpay;II[J)I"⟩
abbrev cL_hearing : ByteArray := method_19_code
def yL_hearing : MethodName := ⟨RL, "hearing", "(LHearingpay;II[J)I"⟩
abbrev cL_paidBy : ByteArray := method_20_code
def yL_paidBy : MethodName := ⟨RL, "paidBy", "(LHearingpay;II[J)I"⟩
abbrev cL_law : ByteArray := code
def yL_law : MethodName := ⟨RL, "law", "([I)Z"⟩
abbrev vwCl : List vw_C := [(RX0, TX0, 10), (RX1, TX1, 5), (RX2, TX2, 8), (RX3, TX3, 7), (RX4, TX4, 24)]
def wAll : List Cond := lw_tbl.filter goodWord
theorem wAll_i (i : Nat) {w : Cond} (h : lw_tbl[i]? = some w) (g : goodWord w = true) : w ∈ wAll := List.mem_filter.mpr ⟨List.mem_of_getElem? h, g⟩
theorem wAll_good {w : Cond} (h : w ∈ wAll) : GoodIn wAll [w] := fun w' hw => by
  rw [List.mem_singleton.mp hw]
  exact ⟨h, good_of_word (List.mem_filter.mp h).2⟩
theorem wAll_self : GoodIn wAll wAll := fun w h => ⟨h, good_of_word (List.mem_filter.mp h).2⟩
theorem wAll_tbl {w : Cond} (h : w ∈ wAll) : w ∈ lw_tbl := (List.mem_filter.mp h).1
theorem wAll_sub {ws : List Cond} (h : ∀ w ∈ ws, w ∈ lw_tbl) (g : ∀ w ∈ ws, goodWord w = true) : ∀ w ∈ ws, w ∈ wAll := fun w hw => List.mem_filter.mpr ⟨h w hw, g w hw⟩
def wV (own : String) (index : Nat) (Cn : String) (y : MethodName) (bc : ByteArray) (mxl : Nat) (rt : Option FieldType) : Prop := Cond.methodLink own index y ∈ wAll ∧ Cond.instanceMethod y ∈ wAll ∧ Cond.selects Cn y y ∈ wAll ∧ Cond.initialized Cn ∈ wAll ∧ Cond.code y bc mxl rt ∈ wAll
def wS (own : String) (index : Nat) (y : MethodName) (bc : ByteArray) (mxl : Nat) (rt : Option FieldType) : Prop := Cond.methodLink own index y ∈ wAll ∧ Cond.static y ∈ wAll ∧ Cond.initialized y.cls ∈ wAll ∧ Cond.code y bc mxl rt ∈ wAll
theorem iX0 : ∀ w ∈ u_ws RX0 TX0 10, w ∈ wAll := wAll_sub (by decide +kernel) (by decide +kernel)
theorem iX1 : ∀ w ∈ u_ws RX1 TX1 5, w ∈ wAll := wAll_sub (by decide +kernel) (by decide +kernel)
theorem iX2 : ∀ w ∈ u_ws RX2 TX2 8, w ∈ wAll := wAll_sub (by decide +kernel) (by decide +kernel)
theorem iX3 : ∀ w ∈ u_ws RX3 TX3 7, w ∈ wAll := wAll_sub (by decide +kernel) (by decide +kernel)
theorem iX4 : ∀ w ∈ u_ws RX4 TX4 24, w ∈ wAll := wAll_sub (by decide +kernel) (by decide +kernel)
theorem fl_X1_9 : Cond.fieldLink RX1 9 "Hearingpay$Interpreter" "languages" "I" ∈ wAll := wAll_i 56 (by decide +kernel) (by decide +kernel)
theorem fl_X3_61 : Cond.fieldLink RX3 61 "Hearingpay$Interpreter" "languages" "I" ∈ wAll := wAll_i 57 (by decide +kernel) (by decide +kernel)
theorem fl_X1_15 : Cond.fieldLink RX1 15 "Hearingpay$Interpreter" "price" "I" ∈ wAll := wAll_i 58 (by decide +kernel) (by decide +kernel)
theorem fl_X3_58 : Cond.fieldLink RX3 58 "Hearingpay$Interpreter" "price" "I" ∈ wAll := wAll_i 59 (by decide +kernel) (by decide +kernel)
theorem fl_X1_18 : Cond.fieldLink RX1 18 "Hearingpay$Interpreter" "paidHours" "[I" ∈ wAll := wAll_i 60 (by decide +kernel) (by decide +kernel)
theorem fl_X1_24 : Cond.fieldLink RX1 24 "Hearingpay$Interpreter" "payers" "[LHearingpay$Matter;" ∈ wAll := wAll_i 61 (by decide +kernel) (by decide +kernel)
theorem fl_X1_28 : Cond.fieldLink RX1 28 "Hearingpay$Interpreter" "amounts" "[I" ∈ wAll := wAll_i 62 (by decide +kernel) (by decide +kernel)
theorem fl_X3_11 : Cond.fieldLink RX3 11 "Hearingpay" "interpreters" "[LHearingpay$Interpreter;" ∈ wAll := wAll_i 76 (by decide +kernel) (by decide +kernel)
theorem fl_X3_15 : Cond.fieldLink RX3 15 "Hearingpay" "waived" "[Z" ∈ wAll := wAll_i 77 (by decide +kernel) (by decide +kernel)
theorem fl_X3_21 : Cond.fieldLink RX3 21 "Hearingpay" "matters" "[LHearingpay$Matter;" ∈ wAll := wAll_i 78 (by decide +kernel) (by decide +kernel)
theorem fl_X3_27 : Cond.fieldLink RX3 27 "Hearingpay" "hearings" "[LHearingpay$Hearing;" ∈ wAll := wAll_i 79 (by decide +kernel) (by decide +kernel)
theorem fl_X3_31 : Cond.fieldLink RX3 31 "Hearingpay" "matterCount" "I" ∈ wAll := wAll_i 80 (by decide +kernel) (by decide +kernel)
theorem fl_X3_35 : Cond.fieldLink RX3 35 "Hearingpay" "hearingCount" "I" ∈ wAll := wAll_i 81 (by decide +kernel) (by decide +kernel)
theorem fl_X3_38 : Cond.fieldLink RX3 38 "Hearingpay" "now" "I" ∈ wAll := wAll_i 82 (by decide +kernel) (by decide +kernel)
theorem cv_L_147 : wV RL 147 RX3 yX3_balances cX3_balances 4 (some .int) := ⟨wAll_i 98 (by decide +kernel) (by decide +kernel), wAll_i 99 (by decide +kernel) (by decide +kernel), wAll_i 100 (by decide +kernel) (by decide +kernel), wAll_i 25 (by decide +kernel) (by decide +kernel), wAll_i 101 (by decide +kernel) (by decide +kernel)⟩
theorem cv_X3_95 : wV RX3 95 RX3 yX3_matterAt cX3_matterAt 2 (some (.object "Hearingpay$Matter")) := ⟨wAll_i 102 (by decide +kernel) (by decide +kernel), wAll_i 104 (by decide +kernel) (by decide +kernel), wAll_i 0 (by decide +kernel) (by decide +kernel), wAll_i 25 (by decide +kernel) (by decide +kernel), wAll_i 105 (by decide +kernel) (by decide +kernel)⟩
theorem cv_L_151 : wV RL 151 RX3 yX3_hour cX3_hour 1 (some .int) := ⟨wAll_i 106 (by decide +kernel) (by decide +kernel), wAll_i 107 (by decide +kernel) (by decide +kernel), wAll_i 108 (by decide +kernel) (by decide +kernel), wAll_i 25 (by decide +kernel) (by decide +kernel), wAll_i 109 (by decide +kernel) (by decide +kernel)⟩
theorem cv_L_7 : wV RL 7 RX3 yX3_interpreter cX3_interpreter 6 (some .int) := ⟨wAll_i 115 (by decide +kernel) (by decide +kernel), wAll_i 116 (by decide +kernel) (by decide +kernel), wAll_i 117 (by decide +kernel) (by decide +kernel), wAll_i 25 (by decide +kernel) (by decide +kernel), wAll_i 118 (by decide +kernel) (by decide +kernel)⟩
theorem cv_X3_42 : wV RX3 42 RX3 yX3_interpreterAt cX3_interpreterAt 2 (some (.object "Hearingpay$Interpreter")) := ⟨wAll_i 119 (by decide +kernel) (by decide +kernel), wAll_i 121 (by decide +kernel) (by decide +kernel), wAll_i 1 (by decide +kernel) (by decide +kernel), wAll_i 25 (by decide +kernel) (by decide +kernel), wAll_i 122 (by decide +kernel) (by decide +kernel)⟩
theorem cv_L_17 : wV RL 17 RX3 yX3_waive cX3_waive 4 (some .boolean) := ⟨wAll_i 210 (by decide +kernel) (by decide +kernel), wAll_i 211 (by decide +kernel) (by decide +kernel), wAll_i 212 (by decide +kernel) (by decide +kernel), wAll_i 25 (by decide +kernel) (by decide +kernel), wAll_i 213 (by decide +kernel) (by decide +kernel)⟩
theorem cv_L_21 : wV RL 21 RX3 yX3_file cX3_file 6 (some .int) := ⟨wAll_i 219 (by decide +kernel) (by decide +kernel), wAll_i 220 (by decide +kernel) (by decide +kernel), wAll_i 221 (by decide +kernel) (by decide +kernel), wAll_i 25 (by decide +kernel) (by decide +kernel), wAll_i 222 (by decide +kernel) (by decide +kernel)⟩
theorem cs_X3_66 : wS RX3 66 yX3_isIn cX3_isIn 2 (some .boolean) := ⟨wAll_i 223 (by decide +kernel) (by decide +kernel), wAll_i 224 (by decide +kernel) (by decide +kernel), wAll_i 25 (by decide +kernel) (by decide +kernel), wAll_i 225 (by decide +kernel) (by decide +kernel)⟩
theorem cs_X3_70 : wS RX3 70 yX3_isInOrNone cX3_isInOrNone 2 (some .boolean) := ⟨wAll_i 226 (by decide +kernel) (by decide +kernel), wAll_i 227 (by decide +kernel) (by decide +kernel), wAll_i 25 (by decide +kernel) (by decide +kernel), wAll_i 228 (by decide +kernel) (by decide +kernel)⟩
theorem fl_X2_18 : Cond.fieldLink RX2 18 "Hearingpay$Matter" "number" "I" ∈ wAll := wAll_i 252 (by decide +kernel) (by decide +kernel)
theorem fl_X3_92 : Cond.fieldLink RX3 92 "Hearingpay$Matter" "number" "I" ∈ wAll := wAll_i 253 (by decide +kernel) (by decide +kernel)
theorem fl_X2_21 : Cond.fieldLink RX2 21 "Hearingpay$Matter" "judge" "I" ∈ wAll := wAll_i 254 (by decide +kernel) (by decide +kernel)
theorem fl_X0_45 : Cond.fieldLink RX0 45 "Hearingpay$Matter" "judge" "I" ∈ wAll := wAll_i 255 (by decide +kernel) (by decide +kernel)
theorem fl_X3_224 : Cond.fieldLink RX3 224 "Hearingpay$Matter" "judge" "I" ∈ wAll := wAll_i 256 (by decide +kernel) (by decide +kernel)
theorem fl_X2_24 : Cond.fieldLink RX2 24 "Hearingpay$Matter" "first" "I" ∈ wAll := wAll_i 257 (by decide +kernel) (by decide +kernel)
theorem fl_X0_58 : Cond.fieldLink RX0 58 "Hearingpay$Matter" "first" "I" ∈ wAll := wAll_i 258 (by decide +kernel) (by decide +kernel)
theorem fl_X3_227 : Cond.fieldLink RX3 227 "Hearingpay$Matter" "first" "I" ∈ wAll := wAll_i 259 (by decide +kernel) (by decide +kernel)
theorem fl_X2_27 : Cond.fieldLink RX2 27 "Hearingpay$Matter" "second" "I" ∈ wAll := wAll_i 260 (by decide +kernel) (by decide +kernel)
theorem fl_X0_61 : Cond.fieldLink RX0 61 "Hearingpay$Matter" "second" "I" ∈ wAll := wAll_i 261 (by decide +kernel) (by decide +kernel)
theorem fl_X3_230 : Cond.fieldLink RX3 230 "Hearingpay$Matter" "second" "I" ∈ wAll := wAll_i 262 (by decide +kernel) (by decide +kernel)
theorem fl_X2_30 : Cond.fieldLink RX2 30 "Hearingpay$Matter" "language" "I" ∈ wAll := wAll_i 263 (by decide +kernel) (by decide +kernel)
theorem fl_X3_233 : Cond.fieldLink RX3 233 "Hearingpay$Matter" "language" "I" ∈ wAll := wAll_i 264 (by decide +kernel) (by decide +kernel)
theorem fl_X2_9 : Cond.fieldLink RX2 9 "Hearingpay$Matter" "state" "I" ∈ wAll := wAll_i 265 (by decide +kernel) (by decide +kernel)
theorem fl_X3_103 : Cond.fieldLink RX3 103 "Hearingpay$Matter" "state" "I" ∈ wAll := wAll_i 266 (by decide +kernel) (by decide +kernel)
theorem fl_X0_68 : Cond.fieldLink RX0 68 "Hearingpay$Matter" "state" "I" ∈ wAll := wAll_i 267 (by decide +kernel) (by decide +kernel)
theorem fl_X2_15 : Cond.fieldLink RX2 15 "Hearingpay$Matter" "balance" "I" ∈ wAll := wAll_i 268 (by decide +kernel) (by decide +kernel)
theorem fl_X3_85 : Cond.fieldLink RX3 85 "Hearingpay$Matter" "balance" "I" ∈ wAll := wAll_i 269 (by decide +kernel) (by decide +kernel)
theorem fl_X1_39 : Cond.fieldLink RX1 39 "Hearingpay$Matter" "balance" "I" ∈ wAll := wAll_i 270 (by decide +kernel) (by decide +kernel)
theorem fl_X2_33 : Cond.fieldLink RX2 33 "Hearingpay$Matter" "end" "I" ∈ wAll := wAll_i 271 (by decide +kernel) (by decide +kernel)
theorem fl_X3_116 : Cond.fieldLink RX3 116 "Hearingpay$Matter" "end" "I" ∈ wAll := wAll_i 272 (by decide +kernel) (by decide +kernel)
theorem cv_X3_88 : wV RX3 88 RX3 yX3_feeFor cX3_feeFor 4 (some .int) := ⟨wAll_i 290 (by decide +kernel) (by decide +kernel), wAll_i 292 (by decide +kernel) (by decide +kernel), wAll_i 3 (by decide +kernel) (by decide +kernel), wAll_i 25 (by decide +kernel) (by decide +kernel), wAll_i 293 (by decide +kernel) (by decide +kernel)⟩
theorem cv_L_27 : wV RL 27 RX3 yX3_pay cX3_pay 4 (some .int) := ⟨wAll_i 297 (by decide +kernel) (by decide +kernel), wAll_i 298 (by decide +kernel) (by decide +kernel), wAll_i 299 (by decide +kernel) (by decide +kernel), wAll_i 25 (by decide +kernel) (by decide +kernel), wAll_i 300 (by decide +kernel) (by decide +kernel)⟩
theorem cv_L_31 : wV RL 31 RX3 yX3_decide cX3_decide 3 (some .int) := ⟨wAll_i 306 (by decide +kernel) (by decide +kernel), wAll_i 307 (by decide +kernel) (by decide +kernel), wAll_i 308 (by decide +kernel) (by decide +kernel), wAll_i 25 (by decide +kernel) (by decide +kernel), wAll_i 309 (by decide +kernel) (by decide +kernel)⟩
theorem cv_X3_108 : wV RX3 108 RX3 yX3_dropAllOf cX3_dropAllOf 5 (some .int) := ⟨wAll_i 311 (by decide +kernel) (by decide +kernel), wAll_i 313 (by decide +kernel) (by decide +kernel), wAll_i 4 (by decide +kernel) (by decide +kernel), wAll_i 25 (by decide +kernel) (by decide +kernel), wAll_i 314 (by decide +kernel) (by decide +kernel)⟩
theorem cv_X3_149 : wV RX3 149 RX3 yX3_hearingAt cX3_hearingAt 2 (some (.object "Hearingpay$Hearing")) := ⟨wAll_i 315 (by decide +kernel) (by decide +kernel), wAll_i 317 (by decide +kernel) (by decide +kernel), wAll_i 5 (by decide +kernel) (by decide +kernel), wAll_i 25 (by decide +kernel) (by decide +kernel), wAll_i 318 (by decide +kernel) (by decide +kernel)⟩
theorem cv_X3_157 : wV RX3 157 RX3 yX3_isToBegin cX3_isToBegin 2 (some .boolean) := ⟨wAll_i 319 (by decide +kernel) (by decide +kernel), wAll_i 321 (by decide +kernel) (by decide +kernel), wAll_i 6 (by decide +kernel) (by decide +kernel), wAll_i 25 (by decide +kernel) (by decide +kernel), wAll_i 322 (by decide +kernel) (by decide +kernel)⟩
theorem cv_X3_170 : wV RX3 170 RX3 yX3_leave cX3_leave 4 none := ⟨wAll_i 323 (by decide +kernel) (by decide +kernel), wAll_i 325 (by decide +kernel) (by decide +kernel), wAll_i 7 (by decide +kernel) (by decide +kernel), wAll_i 25 (by decide +kernel) (by decide +kernel), wAll_i 326 (by decide +kernel) (by decide +kernel)⟩
theorem cv_X3_248 : wV RX3 248 RX0 yX0_charged cX0_charged 3 (some .int) := ⟨wAll_i 327 (by decide +kernel) (by decide +kernel), wAll_i 328 (by decide +kernel) (by decide +kernel), wAll_i 329 (by decide +kernel) (by decide +kernel), wAll_i 35 (by decide +kernel) (by decide +kernel), wAll_i 330 (by decide +kernel) (by decide +kernel)⟩
theorem cv_X3_276 : wV RX3 276 RX1 yX1_keep cX1_keep 5 none := ⟨wAll_i 331 (by decide +kernel) (by decide +kernel), wAll_i 332 (by decide +kernel) (by decide +kernel), wAll_i 333 (by decide +kernel) (by decide +kernel), wAll_i 26 (by decide +kernel) (by decide +kernel), wAll_i 334 (by decide +kernel) (by decide +kernel)⟩
theorem cs_X1_31 : wS RX1 31 yX1_placeOf cX1_placeOf 1 (some .int) := ⟨wAll_i 335 (by decide +kernel) (by decide +kernel), wAll_i 336 (by decide +kernel) (by decide +kernel), wAll_i 26 (by decide +kernel) (by decide +kernel), wAll_i 337 (by decide +kernel) (by decide +kernel)⟩
theorem cv_L_35 : wV RL 35 RX3 yX3_appeal cX3_appeal 3 (some .int) := ⟨wAll_i 341 (by decide +kernel) (by decide +kernel), wAll_i 342 (by decide +kernel) (by decide +kernel), wAll_i 343 (by decide +kernel) (by decide +kernel), wAll_i 25 (by decide +kernel) (by decide +kernel), wAll_i 344 (by decide +kernel) (by decide +kernel)⟩
theorem cv_L_38 : wV RL 38 RX3 yX3_settle cX3_settle 4 (some .int) := ⟨wAll_i 349 (by decide +kernel) (by decide +kernel), wAll_i 350 (by decide +kernel) (by decide +kernel), wAll_i 351 (by decide +kernel) (by decide +kernel), wAll_i 25 (by decide +kernel) (by decide +kernel), wAll_i 352 (by decide +kernel) (by decide +kernel)⟩
theorem cv_L_42 : wV RL 42 RX3 yX3_close cX3_close 3 (some .int) := ⟨wAll_i 357 (by decide +kernel) (by decide +kernel), wAll_i 358 (by decide +kernel) (by decide +kernel), wAll_i 359 (by decide +kernel) (by decide +kernel), wAll_i 25 (by decide +kernel) (by decide +kernel), wAll_i 360 (by decide +kernel) (by decide +kernel)⟩
theorem cv_L_45 : wV RL 45 RX3 yX3_plan cX3_plan 8 (some .int) := ⟨wAll_i 365 (by decide +kernel) (by decide +kernel), wAll_i 366 (by decide +kernel) (by decide +kernel), wAll_i 367 (by decide +kernel) (by decide +kernel), wAll_i 25 (by decide +kernel) (by decide +kernel), wAll_i 368 (by decide +kernel) (by decide +kernel)⟩
theorem cv_X3_125 : wV RX3 125 RX2 yX2_isOpen cX2_isOpen 1 (some .boolean) := ⟨wAll_i 371 (by decide +kernel) (by decide +kernel), wAll_i 372 (by decide +kernel) (by decide +kernel), wAll_i 373 (by decide +kernel) (by decide +kernel), wAll_i 34 (by decide +kernel) (by decide +kernel), wAll_i 374 (by decide +kernel) (by decide +kernel)⟩
theorem cv_X3_129 : wV RX3 129 RX3 yX3_isAsNeeded cX3_isAsNeeded 4 (some .boolean) := ⟨wAll_i 375 (by decide +kernel) (by decide +kernel), wAll_i 377 (by decide +kernel) (by decide +kernel), wAll_i 8 (by decide +kernel) (by decide +kernel), wAll_i 25 (by decide +kernel) (by decide +kernel), wAll_i 378 (by decide +kernel) (by decide +kernel)⟩
theorem cv_X3_257 : wV RX3 257 RX1 yX1_knows cX1_knows 2 (some .boolean) := ⟨wAll_i 379 (by decide +kernel) (by decide +kernel), wAll_i 380 (by decide +kernel) (by decide +kernel), wAll_i 381 (by decide +kernel) (by decide +kernel), wAll_i 26 (by decide +kernel) (by decide +kernel), wAll_i 382 (by decide +kernel) (by decide +kernel)⟩
theorem cv_X3_135 : wV RX3 135 RX3 yX3_clashReason cX3_clashReason 11 (some .int) := ⟨wAll_i 384 (by decide +kernel) (by decide +kernel), wAll_i 386 (by decide +kernel) (by decide +kernel), wAll_i 9 (by decide +kernel) (by decide +kernel), wAll_i 25 (by decide +kernel) (by decide +kernel), wAll_i 387 (by decide +kernel) (by decide +kernel)⟩
theorem cv_X3_218 : wV RX3 218 RX0 yX0_takesPartOf cX0_takesPartOf 3 (some .boolean) := ⟨wAll_i 388 (by decide +kernel) (by decide +kernel), wAll_i 389 (by decide +kernel) (by decide +kernel), wAll_i 390 (by decide +kernel) (by decide +kernel), wAll_i 35 (by decide +kernel) (by decide +kernel), wAll_i 391 (by decide +kernel) (by decide +kernel)⟩
theorem cv_X3_260 : wV RX3 260 RX0 yX0_reasonAgainst cX0_reasonAgainst 4 (some .int) := ⟨wAll_i 392 (by decide +kernel) (by decide +kernel), wAll_i 393 (by decide +kernel) (by decide +kernel), wAll_i 394 (by decide +kernel) (by decide +kernel), wAll_i 35 (by decide +kernel) (by decide +kernel), wAll_i 395 (by decide +kernel) (by decide +kernel)⟩
theorem cv_X0_54 : wV RX0 54 RX0 yX0_needs cX0_needs 3 (some .boolean) := ⟨wAll_i 396 (by decide +kernel) (by decide +kernel), wAll_i 397 (by decide +kernel) (by decide +kernel), wAll_i 398 (by decide +kernel) (by decide +kernel), wAll_i 35 (by decide +kernel) (by decide +kernel), wAll_i 399 (by decide +kernel) (by decide +kernel)⟩
theorem cv_X0_50 : wV RX0 50 RX2 yX2_isOf cX2_isOf 2 (some .boolean) := ⟨wAll_i 400 (by decide +kernel) (by decide +kernel), wAll_i 401 (by decide +kernel) (by decide +kernel), wAll_i 402 (by decide +kernel) (by decide +kernel), wAll_i 34 (by decide +kernel) (by decide +kernel), wAll_i 403 (by decide +kernel) (by decide +kernel)⟩
theorem fl_X0_35 : Cond.fieldLink RX0 35 "Hearingpay$Hearing" "number" "I" ∈ wAll := wAll_i 410 (by decide +kernel) (by decide +kernel)
theorem fl_X3_148 : Cond.fieldLink RX3 148 "Hearingpay$Hearing" "number" "I" ∈ wAll := wAll_i 411 (by decide +kernel) (by decide +kernel)
theorem fl_X0_38 : Cond.fieldLink RX0 38 "Hearingpay$Hearing" "matter" "LHearingpay$Matter;" ∈ wAll := wAll_i 412 (by decide +kernel) (by decide +kernel)
theorem fl_X3_161 : Cond.fieldLink RX3 161 "Hearingpay$Hearing" "matter" "LHearingpay$Matter;" ∈ wAll := wAll_i 413 (by decide +kernel) (by decide +kernel)
theorem fl_X0_42 : Cond.fieldLink RX0 42 "Hearingpay$Hearing" "hours" "I" ∈ wAll := wAll_i 414 (by decide +kernel) (by decide +kernel)
theorem fl_X3_167 : Cond.fieldLink RX3 167 "Hearingpay$Hearing" "hours" "I" ∈ wAll := wAll_i 415 (by decide +kernel) (by decide +kernel)
theorem fl_X0_9 : Cond.fieldLink RX0 9 "Hearingpay$Hearing" "charges" "[I" ∈ wAll := wAll_i 416 (by decide +kernel) (by decide +kernel)
theorem fl_X3_268 : Cond.fieldLink RX3 268 "Hearingpay$Hearing" "charges" "[I" ∈ wAll := wAll_i 417 (by decide +kernel) (by decide +kernel)
theorem fl_X0_15 : Cond.fieldLink RX0 15 "Hearingpay$Hearing" "state" "I" ∈ wAll := wAll_i 418 (by decide +kernel) (by decide +kernel)
theorem fl_X3_178 : Cond.fieldLink RX3 178 "Hearingpay$Hearing" "state" "I" ∈ wAll := wAll_i 419 (by decide +kernel) (by decide +kernel)
theorem fl_X0_19 : Cond.fieldLink RX0 19 "Hearingpay$Hearing" "room" "I" ∈ wAll := wAll_i 420 (by decide +kernel) (by decide +kernel)
theorem fl_X3_239 : Cond.fieldLink RX3 239 "Hearingpay$Hearing" "room" "I" ∈ wAll := wAll_i 421 (by decide +kernel) (by decide +kernel)
theorem fl_X0_22 : Cond.fieldLink RX0 22 "Hearingpay$Hearing" "interpreter" "I" ∈ wAll := wAll_i 422 (by decide +kernel) (by decide +kernel)
theorem fl_X3_242 : Cond.fieldLink RX3 242 "Hearingpay$Hearing" "interpreter" "I" ∈ wAll := wAll_i 423 (by decide +kernel) (by decide +kernel)
theorem fl_X0_25 : Cond.fieldLink RX0 25 "Hearingpay$Hearing" "from" "I" ∈ wAll := wAll_i 424 (by decide +kernel) (by decide +kernel)
theorem fl_X3_189 : Cond.fieldLink RX3 189 "Hearingpay$Hearing" "from" "I" ∈ wAll := wAll_i 425 (by decide +kernel) (by decide +kernel)
theorem fl_X0_28 : Cond.fieldLink RX0 28 "Hearingpay$Hearing" "isFirstTold" "Z" ∈ wAll := wAll_i 426 (by decide +kernel) (by decide +kernel)
theorem fl_X0_32 : Cond.fieldLink RX0 32 "Hearingpay$Hearing" "isSecondTold" "Z" ∈ wAll := wAll_i 427 (by decide +kernel) (by decide +kernel)
theorem cv_X3_144 : wV RX3 144 RX3 yX3_put cX3_put 7 none := ⟨wAll_i 449 (by decide +kernel) (by decide +kernel), wAll_i 451 (by decide +kernel) (by decide +kernel), wAll_i 10 (by decide +kernel) (by decide +kernel), wAll_i 25 (by decide +kernel) (by decide +kernel), wAll_i 452 (by decide +kernel) (by decide +kernel)⟩
theorem cv_X3_264 : wV RX3 264 RX0 yX0_settleAt cX0_settleAt 4 none := ⟨wAll_i 453 (by decide +kernel) (by decide +kernel), wAll_i 454 (by decide +kernel) (by decide +kernel), wAll_i 455 (by decide +kernel) (by decide +kernel), wAll_i 35 (by decide +kernel) (by decide +kernel), wAll_i 456 (by decide +kernel) (by decide +kernel)⟩
theorem cv_X3_272 : wV RX3 272 RX1 yX1_take cX1_take 7 (some .int) := ⟨wAll_i 457 (by decide +kernel) (by decide +kernel), wAll_i 458 (by decide +kernel) (by decide +kernel), wAll_i 459 (by decide +kernel) (by decide +kernel), wAll_i 26 (by decide +kernel) (by decide +kernel), wAll_i 460 (by decide +kernel) (by decide +kernel)⟩
theorem cv_X1_35 : wV RX1 35 RX1 yX1_payer cX1_payer 4 (some (.object "Hearingpay$Matter")) := ⟨wAll_i 461 (by decide +kernel) (by decide +kernel), wAll_i 462 (by decide +kernel) (by decide +kernel), wAll_i 463 (by decide +kernel) (by decide +kernel), wAll_i 26 (by decide +kernel) (by decide +kernel), wAll_i 464 (by decide +kernel) (by decide +kernel)⟩
theorem cv_L_49 : wV RL 49 RX3 yX3_move cX3_move 6 (some .int) := ⟨wAll_i 468 (by decide +kernel) (by decide +kernel), wAll_i 469 (by decide +kernel) (by decide +kernel), wAll_i 470 (by decide +kernel) (by decide +kernel), wAll_i 25 (by decide +kernel) (by decide +kernel), wAll_i 471 (by decide +kernel) (by decide +kernel)⟩
theorem cv_L_52 : wV RL 52 RX3 yX3_drop cX3_drop 3 (some .int) := ⟨wAll_i 478 (by decide +kernel) (by decide +kernel), wAll_i 479 (by decide +kernel) (by decide +kernel), wAll_i 480 (by decide +kernel) (by decide +kernel), wAll_i 25 (by decide +kernel) (by decide +kernel), wAll_i 481 (by decide +kernel) (by decide +kernel)⟩
theorem cv_L_55 : wV RL 55 RX3 yX3_notice cX3_notice 5 (some .boolean) := ⟨wAll_i 487 (by decide +kernel) (by decide +kernel), wAll_i 488 (by decide +kernel) (by decide +kernel), wAll_i 489 (by decide +kernel) (by decide +kernel), wAll_i 25 (by decide +kernel) (by decide +kernel), wAll_i 490 (by decide +kernel) (by decide +kernel)⟩
theorem cv_X3_181 : wV RX3 181 RX2 yX2_isOf cX2_isOf 2 (some .boolean) := ⟨wAll_i 492 (by decide +kernel) (by decide +kernel), wAll_i 401 (by decide +kernel) (by decide +kernel), wAll_i 402 (by decide +kernel) (by decide +kernel), wAll_i 34 (by decide +kernel) (by decide +kernel), wAll_i 403 (by decide +kernel) (by decide +kernel)⟩
theorem cv_X3_192 : wV RX3 192 RX0 yX0_tell cX0_tell 2 none := ⟨wAll_i 495 (by decide +kernel) (by decide +kernel), wAll_i 496 (by decide +kernel) (by decide +kernel), wAll_i 497 (by decide +kernel) (by decide +kernel), wAll_i 35 (by decide +kernel) (by decide +kernel), wAll_i 498 (by decide +kernel) (by decide +kernel)⟩
theorem cv_L_59 : wV RL 59 RX3 yX3_pass cX3_pass 4 (some .int) := ⟨wAll_i 502 (by decide +kernel) (by decide +kernel), wAll_i 503 (by decide +kernel) (by decide +kernel), wAll_i 504 (by decide +kernel) (by decide +kernel), wAll_i 25 (by decide +kernel) (by decide +kernel), wAll_i 505 (by decide +kernel) (by decide +kernel)⟩
theorem cv_X3_200 : wV RX3 200 RX3 yX3_endHearings cX3_endHearings 4 (some .int) := ⟨wAll_i 508 (by decide +kernel) (by decide +kernel), wAll_i 510 (by decide +kernel) (by decide +kernel), wAll_i 11 (by decide +kernel) (by decide +kernel), wAll_i 25 (by decide +kernel) (by decide +kernel), wAll_i 511 (by decide +kernel) (by decide +kernel)⟩
theorem cv_X3_279 : wV RX3 279 RX0 yX0_end cX0_end 1 none := ⟨wAll_i 512 (by decide +kernel) (by decide +kernel), wAll_i 513 (by decide +kernel) (by decide +kernel), wAll_i 514 (by decide +kernel) (by decide +kernel), wAll_i 35 (by decide +kernel) (by decide +kernel), wAll_i 515 (by decide +kernel) (by decide +kernel)⟩
theorem cv_X0_64 : wV RX0 64 RX2 yX2_isOpen cX2_isOpen 1 (some .boolean) := ⟨wAll_i 516 (by decide +kernel) (by decide +kernel), wAll_i 372 (by decide +kernel) (by decide +kernel), wAll_i 373 (by decide +kernel) (by decide +kernel), wAll_i 34 (by decide +kernel) (by decide +kernel), wAll_i 374 (by decide +kernel) (by decide +kernel)⟩
theorem cv_X3_204 : wV RX3 204 RX3 yX3_runTerms cX3_runTerms 3 none := ⟨wAll_i 517 (by decide +kernel) (by decide +kernel), wAll_i 519 (by decide +kernel) (by decide +kernel), wAll_i 12 (by decide +kernel) (by decide +kernel), wAll_i 25 (by decide +kernel) (by decide +kernel), wAll_i 520 (by decide +kernel) (by decide +kernel)⟩
theorem cv_X3_281 : wV RX3 281 RX2 yX2_runTerm cX2_runTerm 2 none := ⟨wAll_i 521 (by decide +kernel) (by decide +kernel), wAll_i 522 (by decide +kernel) (by decide +kernel), wAll_i 523 (by decide +kernel) (by decide +kernel), wAll_i 34 (by decide +kernel) (by decide +kernel), wAll_i 524 (by decide +kernel) (by decide +kernel)⟩
theorem cv_X2_36 : wV RX2 36 RX2 yX2_isOpen cX2_isOpen 1 (some .boolean) := ⟨wAll_i 525 (by decide +kernel) (by decide +kernel), wAll_i 372 (by decide +kernel) (by decide +kernel), wAll_i 373 (by decide +kernel) (by decide +kernel), wAll_i 34 (by decide +kernel) (by decide +kernel), wAll_i 374 (by decide +kernel) (by decide +kernel)⟩
theorem cv_L_62 : wV RL 62 RX3 yX3_clash cX3_clash 7 (some .int) := ⟨wAll_i 529 (by decide +kernel) (by decide +kernel), wAll_i 530 (by decide +kernel) (by decide +kernel), wAll_i 531 (by decide +kernel) (by decide +kernel), wAll_i 25 (by decide +kernel) (by decide +kernel), wAll_i 532 (by decide +kernel) (by decide +kernel)⟩
theorem cv_L_65 : wV RL 65 RX3 yX3_at cX3_at 6 (some .int) := ⟨wAll_i 536 (by decide +kernel) (by decide +kernel), wAll_i 537 (by decide +kernel) (by decide +kernel), wAll_i 538 (by decide +kernel) (by decide +kernel), wAll_i 25 (by decide +kernel) (by decide +kernel), wAll_i 539 (by decide +kernel) (by decide +kernel)⟩
theorem cs_X3_209 : wS RX3 209 yX3_howMany cX3_howMany 1 (some .int) := ⟨wAll_i 541 (by decide +kernel) (by decide +kernel), wAll_i 542 (by decide +kernel) (by decide +kernel), wAll_i 25 (by decide +kernel) (by decide +kernel), wAll_i 543 (by decide +kernel) (by decide +kernel)⟩
theorem cs_X3_213 : wS RX3 213 yX3_isCalendarHour cX3_isCalendarHour 1 (some .boolean) := ⟨wAll_i 544 (by decide +kernel) (by decide +kernel), wAll_i 545 (by decide +kernel) (by decide +kernel), wAll_i 25 (by decide +kernel) (by decide +kernel), wAll_i 546 (by decide +kernel) (by decide +kernel)⟩
theorem cv_X3_221 : wV RX3 221 RX0 yX0_needs cX0_needs 3 (some .boolean) := ⟨wAll_i 548 (by decide +kernel) (by decide +kernel), wAll_i 397 (by decide +kernel) (by decide +kernel), wAll_i 398 (by decide +kernel) (by decide +kernel), wAll_i 35 (by decide +kernel) (by decide +kernel), wAll_i 399 (by decide +kernel) (by decide +kernel)⟩
theorem cv_L_68 : wV RL 68 RX3 yX3_about cX3_about 4 (some .int) := ⟨wAll_i 552 (by decide +kernel) (by decide +kernel), wAll_i 553 (by decide +kernel) (by decide +kernel), wAll_i 554 (by decide +kernel) (by decide +kernel), wAll_i 25 (by decide +kernel) (by decide +kernel), wAll_i 555 (by decide +kernel) (by decide +kernel)⟩
theorem cv_X3_236 : wV RX3 236 RX3 yX3_paidHoursOf cX3_paidHoursOf 5 (some .int) := ⟨wAll_i 556 (by decide +kernel) (by decide +kernel), wAll_i 558 (by decide +kernel) (by decide +kernel), wAll_i 13 (by decide +kernel) (by decide +kernel), wAll_i 25 (by decide +kernel) (by decide +kernel), wAll_i 559 (by decide +kernel) (by decide +kernel)⟩
theorem cv_X3_284 : wV RX3 284 RX1 yX1_hoursPaidBy cX1_hoursPaidBy 5 (some .int) := ⟨wAll_i 560 (by decide +kernel) (by decide +kernel), wAll_i 561 (by decide +kernel) (by decide +kernel), wAll_i 562 (by decide +kernel) (by decide +kernel), wAll_i 26 (by decide +kernel) (by decide +kernel), wAll_i 563 (by decide +kernel) (by decide +kernel)⟩
theorem cv_L_71 : wV RL 71 RX3 yX3_hearing cX3_hearing 4 (some .int) := ⟨wAll_i 567 (by decide +kernel) (by decide +kernel), wAll_i 568 (by decide +kernel) (by decide +kernel), wAll_i 569 (by decide +kernel) (by decide +kernel), wAll_i 25 (by decide +kernel) (by decide +kernel), wAll_i 570 (by decide +kernel) (by decide +kernel)⟩
theorem cv_X3_245 : wV RX3 245 RX0 yX0_notices cX0_notices 1 (some .int) := ⟨wAll_i 571 (by decide +kernel) (by decide +kernel), wAll_i 572 (by decide +kernel) (by decide +kernel), wAll_i 573 (by decide +kernel) (by decide +kernel), wAll_i 35 (by decide +kernel) (by decide +kernel), wAll_i 574 (by decide +kernel) (by decide +kernel)⟩
theorem cv_L_74 : wV RL 74 RX3 yX3_paidBy cX3_paidBy 5 (some .int) := ⟨wAll_i 578 (by decide +kernel) (by decide +kernel), wAll_i 579 (by decide +kernel) (by decide +kernel), wAll_i 580 (by decide +kernel) (by decide +kernel), wAll_i 25 (by decide +kernel) (by decide +kernel), wAll_i 581 (by decide +kernel) (by decide +kernel)⟩
theorem cv_X3_253 : wV RX3 253 RX1 yX1_payer cX1_payer 4 (some (.object "Hearingpay$Matter")) := ⟨wAll_i 583 (by decide +kernel) (by decide +kernel), wAll_i 462 (by decide +kernel) (by decide +kernel), wAll_i 463 (by decide +kernel) (by decide +kernel), wAll_i 26 (by decide +kernel) (by decide +kernel), wAll_i 464 (by decide +kernel) (by decide +kernel)⟩
theorem fl_X4_71 : Cond.fieldLink RX4 71 "HearingpayModel" "thrown" "I" ∈ wAll := wAll_i 590 (by decide +kernel) (by decide +kernel)
theorem fl_X4_85 : Cond.fieldLink RX4 85 "HearingpayModel" "now" "I" ∈ wAll := wAll_i 591 (by decide +kernel) (by decide +kernel)
theorem fl_X4_7 : Cond.fieldLink RX4 7 "HearingpayModel" "languages" "[I" ∈ wAll := wAll_i 592 (by decide +kernel) (by decide +kernel)
theorem fl_X4_13 : Cond.fieldLink RX4 13 "HearingpayModel" "price" "[I" ∈ wAll := wAll_i 593 (by decide +kernel) (by decide +kernel)
theorem fl_X4_16 : Cond.fieldLink RX4 16 "HearingpayModel" "isWaived" "[Z" ∈ wAll := wAll_i 594 (by decide +kernel) (by decide +kernel)
theorem fl_X4_75 : Cond.fieldLink RX4 75 "HearingpayModel" "matters" "I" ∈ wAll := wAll_i 595 (by decide +kernel) (by decide +kernel)
theorem fl_X4_20 : Cond.fieldLink RX4 20 "HearingpayModel" "state" "[I" ∈ wAll := wAll_i 596 (by decide +kernel) (by decide +kernel)
theorem fl_X4_23 : Cond.fieldLink RX4 23 "HearingpayModel" "judge" "[I" ∈ wAll := wAll_i 597 (by decide +kernel) (by decide +kernel)
theorem fl_X4_26 : Cond.fieldLink RX4 26 "HearingpayModel" "first" "[I" ∈ wAll := wAll_i 598 (by decide +kernel) (by decide +kernel)
theorem fl_X4_29 : Cond.fieldLink RX4 29 "HearingpayModel" "second" "[I" ∈ wAll := wAll_i 599 (by decide +kernel) (by decide +kernel)
theorem fl_X4_32 : Cond.fieldLink RX4 32 "HearingpayModel" "language" "[I" ∈ wAll := wAll_i 600 (by decide +kernel) (by decide +kernel)
theorem fl_X4_35 : Cond.fieldLink RX4 35 "HearingpayModel" "balance" "[I" ∈ wAll := wAll_i 601 (by decide +kernel) (by decide +kernel)
theorem fl_X4_38 : Cond.fieldLink RX4 38 "HearingpayModel" "end" "[I" ∈ wAll := wAll_i 602 (by decide +kernel) (by decide +kernel)
theorem fl_X4_82 : Cond.fieldLink RX4 82 "HearingpayModel" "hearings" "I" ∈ wAll := wAll_i 603 (by decide +kernel) (by decide +kernel)
theorem fl_X4_41 : Cond.fieldLink RX4 41 "HearingpayModel" "how" "[I" ∈ wAll := wAll_i 604 (by decide +kernel) (by decide +kernel)
theorem fl_X4_44 : Cond.fieldLink RX4 44 "HearingpayModel" "matter" "[I" ∈ wAll := wAll_i 605 (by decide +kernel) (by decide +kernel)
theorem fl_X4_47 : Cond.fieldLink RX4 47 "HearingpayModel" "room" "[I" ∈ wAll := wAll_i 606 (by decide +kernel) (by decide +kernel)
theorem fl_X4_50 : Cond.fieldLink RX4 50 "HearingpayModel" "speaker" "[I" ∈ wAll := wAll_i 607 (by decide +kernel) (by decide +kernel)
theorem fl_X4_53 : Cond.fieldLink RX4 53 "HearingpayModel" "from" "[I" ∈ wAll := wAll_i 608 (by decide +kernel) (by decide +kernel)
theorem fl_X4_56 : Cond.fieldLink RX4 56 "HearingpayModel" "hours" "[I" ∈ wAll := wAll_i 609 (by decide +kernel) (by decide +kernel)
theorem fl_X4_59 : Cond.fieldLink RX4 59 "HearingpayModel" "notices" "[I" ∈ wAll := wAll_i 610 (by decide +kernel) (by decide +kernel)
theorem fl_X4_62 : Cond.fieldLink RX4 62 "HearingpayModel" "charged" "[I" ∈ wAll := wAll_i 611 (by decide +kernel) (by decide +kernel)
theorem fl_X4_65 : Cond.fieldLink RX4 65 "HearingpayModel" "payer" "[I" ∈ wAll := wAll_i 612 (by decide +kernel) (by decide +kernel)
theorem fl_X4_68 : Cond.fieldLink RX4 68 "HearingpayModel" "paid" "[I" ∈ wAll := wAll_i 613 (by decide +kernel) (by decide +kernel)
theorem cv_L_87 : wV RL 87 RX4 yX4_thrown cX4_thrown 1 (some .int) := ⟨wAll_i 663 (by decide +kernel) (by decide +kernel), wAll_i 664 (by decide +kernel) (by decide +kernel), wAll_i 665 (by decide +kernel) (by decide +kernel), wAll_i 27 (by decide +kernel) (by decide +kernel), wAll_i 666 (by decide +kernel) (by decide +kernel)⟩
theorem cv_L_86 : wV RL 86 RX4 yX4_interpreter cX4_interpreter 5 (some .int) := ⟨wAll_i 667 (by decide +kernel) (by decide +kernel), wAll_i 668 (by decide +kernel) (by decide +kernel), wAll_i 669 (by decide +kernel) (by decide +kernel), wAll_i 27 (by decide +kernel) (by decide +kernel), wAll_i 670 (by decide +kernel) (by decide +kernel)⟩
theorem cs_X4_78 : wS RX4 78 yX4_in cX4_in 3 (some .boolean) := ⟨wAll_i 671 (by decide +kernel) (by decide +kernel), wAll_i 672 (by decide +kernel) (by decide +kernel), wAll_i 27 (by decide +kernel) (by decide +kernel), wAll_i 673 (by decide +kernel) (by decide +kernel)⟩
theorem cv_L_94 : wV RL 94 RX4 yX4_waive cX4_waive 4 (some .boolean) := ⟨wAll_i 674 (by decide +kernel) (by decide +kernel), wAll_i 675 (by decide +kernel) (by decide +kernel), wAll_i 676 (by decide +kernel) (by decide +kernel), wAll_i 27 (by decide +kernel) (by decide +kernel), wAll_i 677 (by decide +kernel) (by decide +kernel)⟩
theorem cv_L_98 : wV RL 98 RX4 yX4_file cX4_file 6 (some .int) := ⟨wAll_i 678 (by decide +kernel) (by decide +kernel), wAll_i 679 (by decide +kernel) (by decide +kernel), wAll_i 680 (by decide +kernel) (by decide +kernel), wAll_i 27 (by decide +kernel) (by decide +kernel), wAll_i 681 (by decide +kernel) (by decide +kernel)⟩
theorem cv_L_102 : wV RL 102 RX4 yX4_pay cX4_pay 3 (some .int) := ⟨wAll_i 682 (by decide +kernel) (by decide +kernel), wAll_i 683 (by decide +kernel) (by decide +kernel), wAll_i 684 (by decide +kernel) (by decide +kernel), wAll_i 27 (by decide +kernel) (by decide +kernel), wAll_i 685 (by decide +kernel) (by decide +kernel)⟩
theorem cv_X4_88 : wV RX4 88 RX4 yX4_isMatter cX4_isMatter 2 (some .boolean) := ⟨wAll_i 686 (by decide +kernel) (by decide +kernel), wAll_i 688 (by decide +kernel) (by decide +kernel), wAll_i 14 (by decide +kernel) (by decide +kernel), wAll_i 27 (by decide +kernel) (by decide +kernel), wAll_i 689 (by decide +kernel) (by decide +kernel)⟩
theorem cv_L_106 : wV RL 106 RX4 yX4_decide cX4_decide 4 (some .int) := ⟨wAll_i 690 (by decide +kernel) (by decide +kernel), wAll_i 691 (by decide +kernel) (by decide +kernel), wAll_i 692 (by decide +kernel) (by decide +kernel), wAll_i 27 (by decide +kernel) (by decide +kernel), wAll_i 693 (by decide +kernel) (by decide +kernel)⟩
theorem cv_X4_92 : wV RX4 92 RX4 yX4_leaves cX4_leaves 5 none := ⟨wAll_i 694 (by decide +kernel) (by decide +kernel), wAll_i 696 (by decide +kernel) (by decide +kernel), wAll_i 15 (by decide +kernel) (by decide +kernel), wAll_i 27 (by decide +kernel) (by decide +kernel), wAll_i 697 (by decide +kernel) (by decide +kernel)⟩
theorem cv_L_109 : wV RL 109 RX4 yX4_appeal cX4_appeal 2 (some .int) := ⟨wAll_i 698 (by decide +kernel) (by decide +kernel), wAll_i 699 (by decide +kernel) (by decide +kernel), wAll_i 700 (by decide +kernel) (by decide +kernel), wAll_i 27 (by decide +kernel) (by decide +kernel), wAll_i 701 (by decide +kernel) (by decide +kernel)⟩
theorem cv_L_112 : wV RL 112 RX4 yX4_settle cX4_settle 3 (some .int) := ⟨wAll_i 702 (by decide +kernel) (by decide +kernel), wAll_i 703 (by decide +kernel) (by decide +kernel), wAll_i 704 (by decide +kernel) (by decide +kernel), wAll_i 27 (by decide +kernel) (by decide +kernel), wAll_i 705 (by decide +kernel) (by decide +kernel)⟩
theorem cv_L_115 : wV RL 115 RX4 yX4_close cX4_close 2 (some .int) := ⟨wAll_i 706 (by decide +kernel) (by decide +kernel), wAll_i 707 (by decide +kernel) (by decide +kernel), wAll_i 708 (by decide +kernel) (by decide +kernel), wAll_i 27 (by decide +kernel) (by decide +kernel), wAll_i 709 (by decide +kernel) (by decide +kernel)⟩
theorem cv_L_119 : wV RL 119 RX4 yX4_plan cX4_plan 7 (some .int) := ⟨wAll_i 710 (by decide +kernel) (by decide +kernel), wAll_i 711 (by decide +kernel) (by decide +kernel), wAll_i 712 (by decide +kernel) (by decide +kernel), wAll_i 27 (by decide +kernel) (by decide +kernel), wAll_i 713 (by decide +kernel) (by decide +kernel)⟩
theorem cs_X4_104 : wS RX4 104 yX4_isSpeaker cX4_isSpeaker 1 (some .boolean) := ⟨wAll_i 714 (by decide +kernel) (by decide +kernel), wAll_i 715 (by decide +kernel) (by decide +kernel), wAll_i 27 (by decide +kernel) (by decide +kernel), wAll_i 716 (by decide +kernel) (by decide +kernel)⟩
theorem cv_X4_107 : wV RX4 107 RX4 yX4_isOpen cX4_isOpen 2 (some .boolean) := ⟨wAll_i 717 (by decide +kernel) (by decide +kernel), wAll_i 719 (by decide +kernel) (by decide +kernel), wAll_i 16 (by decide +kernel) (by decide +kernel), wAll_i 27 (by decide +kernel) (by decide +kernel), wAll_i 720 (by decide +kernel) (by decide +kernel)⟩
theorem cv_X4_110 : wV RX4 110 RX4 yX4_fits cX4_fits 3 (some .boolean) := ⟨wAll_i 721 (by decide +kernel) (by decide +kernel), wAll_i 723 (by decide +kernel) (by decide +kernel), wAll_i 17 (by decide +kernel) (by decide +kernel), wAll_i 27 (by decide +kernel) (by decide +kernel), wAll_i 724 (by decide +kernel) (by decide +kernel)⟩
theorem cv_X4_114 : wV RX4 114 RX4 yX4_reason cX4_reason 8 (some .int) := ⟨wAll_i 725 (by decide +kernel) (by decide +kernel), wAll_i 727 (by decide +kernel) (by decide +kernel), wAll_i 18 (by decide +kernel) (by decide +kernel), wAll_i 27 (by decide +kernel) (by decide +kernel), wAll_i 728 (by decide +kernel) (by decide +kernel)⟩
theorem cv_X4_100 : wV RX4 100 RX4 yX4_clashes cX4_clashes 12 (some .boolean) := ⟨wAll_i 729 (by decide +kernel) (by decide +kernel), wAll_i 731 (by decide +kernel) (by decide +kernel), wAll_i 19 (by decide +kernel) (by decide +kernel), wAll_i 27 (by decide +kernel) (by decide +kernel), wAll_i 732 (by decide +kernel) (by decide +kernel)⟩
theorem cs_X4_96 : wS RX4 96 yX4_meets cX4_meets 4 (some .boolean) := ⟨wAll_i 733 (by decide +kernel) (by decide +kernel), wAll_i 734 (by decide +kernel) (by decide +kernel), wAll_i 27 (by decide +kernel) (by decide +kernel), wAll_i 735 (by decide +kernel) (by decide +kernel)⟩
theorem cv_X4_118 : wV RX4 118 RX4 yX4_comes cX4_comes 7 none := ⟨wAll_i 736 (by decide +kernel) (by decide +kernel), wAll_i 738 (by decide +kernel) (by decide +kernel), wAll_i 20 (by decide +kernel) (by decide +kernel), wAll_i 27 (by decide +kernel) (by decide +kernel), wAll_i 739 (by decide +kernel) (by decide +kernel)⟩
theorem cv_L_122 : wV RL 122 RX4 yX4_move cX4_move 6 (some .int) := ⟨wAll_i 740 (by decide +kernel) (by decide +kernel), wAll_i 741 (by decide +kernel) (by decide +kernel), wAll_i 742 (by decide +kernel) (by decide +kernel), wAll_i 27 (by decide +kernel) (by decide +kernel), wAll_i 743 (by decide +kernel) (by decide +kernel)⟩
theorem cv_X4_121 : wV RX4 121 RX4 yX4_isHearing cX4_isHearing 2 (some .boolean) := ⟨wAll_i 744 (by decide +kernel) (by decide +kernel), wAll_i 746 (by decide +kernel) (by decide +kernel), wAll_i 21 (by decide +kernel) (by decide +kernel), wAll_i 27 (by decide +kernel) (by decide +kernel), wAll_i 747 (by decide +kernel) (by decide +kernel)⟩
theorem cv_L_125 : wV RL 125 RX4 yX4_drop cX4_drop 2 (some .int) := ⟨wAll_i 748 (by decide +kernel) (by decide +kernel), wAll_i 749 (by decide +kernel) (by decide +kernel), wAll_i 750 (by decide +kernel) (by decide +kernel), wAll_i 27 (by decide +kernel) (by decide +kernel), wAll_i 751 (by decide +kernel) (by decide +kernel)⟩
theorem cv_L_128 : wV RL 128 RX4 yX4_notice cX4_notice 5 (some .boolean) := ⟨wAll_i 752 (by decide +kernel) (by decide +kernel), wAll_i 753 (by decide +kernel) (by decide +kernel), wAll_i 754 (by decide +kernel) (by decide +kernel), wAll_i 27 (by decide +kernel) (by decide +kernel), wAll_i 755 (by decide +kernel) (by decide +kernel)⟩
theorem cv_L_131 : wV RL 131 RX4 yX4_pass cX4_pass 4 (some .int) := ⟨wAll_i 756 (by decide +kernel) (by decide +kernel), wAll_i 757 (by decide +kernel) (by decide +kernel), wAll_i 758 (by decide +kernel) (by decide +kernel), wAll_i 27 (by decide +kernel) (by decide +kernel), wAll_i 759 (by decide +kernel) (by decide +kernel)⟩
theorem cv_X4_124 : wV RX4 124 RX4 yX4_ends cX4_ends 4 (some .int) := ⟨wAll_i 760 (by decide +kernel) (by decide +kernel), wAll_i 762 (by decide +kernel) (by decide +kernel), wAll_i 22 (by decide +kernel) (by decide +kernel), wAll_i 27 (by decide +kernel) (by decide +kernel), wAll_i 763 (by decide +kernel) (by decide +kernel)⟩
theorem cv_L_134 : wV RL 134 RX4 yX4_clash cX4_clash 6 (some .int) := ⟨wAll_i 764 (by decide +kernel) (by decide +kernel), wAll_i 765 (by decide +kernel) (by decide +kernel), wAll_i 766 (by decide +kernel) (by decide +kernel), wAll_i 27 (by decide +kernel) (by decide +kernel), wAll_i 767 (by decide +kernel) (by decide +kernel)⟩
theorem cv_L_137 : wV RL 137 RX4 yX4_at cX4_at 8 (some .int) := ⟨wAll_i 768 (by decide +kernel) (by decide +kernel), wAll_i 769 (by decide +kernel) (by decide +kernel), wAll_i 770 (by decide +kernel) (by decide +kernel), wAll_i 27 (by decide +kernel) (by decide +kernel), wAll_i 771 (by decide +kernel) (by decide +kernel)⟩
theorem cv_L_140 : wV RL 140 RX4 yX4_about cX4_about 3 (some .int) := ⟨wAll_i 772 (by decide +kernel) (by decide +kernel), wAll_i 773 (by decide +kernel) (by decide +kernel), wAll_i 774 (by decide +kernel) (by decide +kernel), wAll_i 27 (by decide +kernel) (by decide +kernel), wAll_i 775 (by decide +kernel) (by decide +kernel)⟩
theorem cv_X4_128 : wV RX4 128 RX4 yX4_toCome cX4_toCome 5 (some .int) := ⟨wAll_i 776 (by decide +kernel) (by decide +kernel), wAll_i 778 (by decide +kernel) (by decide +kernel), wAll_i 23 (by decide +kernel) (by decide +kernel), wAll_i 27 (by decide +kernel) (by decide +kernel), wAll_i 779 (by decide +kernel) (by decide +kernel)⟩
theorem cv_L_143 : wV RL 143 RX4 yX4_hearing cX4_hearing 3 (some .int) := ⟨wAll_i 780 (by decide +kernel) (by decide +kernel), wAll_i 781 (by decide +kernel) (by decide +kernel), wAll_i 782 (by decide +kernel) (by decide +kernel), wAll_i 27 (by decide +kernel) (by decide +kernel), wAll_i 783 (by decide +kernel) (by decide +kernel)⟩
theorem cv_L_146 : wV RL 146 RX4 yX4_paidBy cX4_paidBy 3 (some .int) := ⟨wAll_i 784 (by decide +kernel) (by decide +kernel), wAll_i 785 (by decide +kernel) (by decide +kernel), wAll_i 786 (by decide +kernel) (by decide +kernel), wAll_i 27 (by decide +kernel) (by decide +kernel), wAll_i 787 (by decide +kernel) (by decide +kernel)⟩
theorem cv_L_150 : wV RL 150 RX4 yX4_balances cX4_balances 3 (some .int) := ⟨wAll_i 788 (by decide +kernel) (by decide +kernel), wAll_i 789 (by decide +kernel) (by decide +kernel), wAll_i 790 (by decide +kernel) (by decide +kernel), wAll_i 27 (by decide +kernel) (by decide +kernel), wAll_i 791 (by decide +kernel) (by decide +kernel)⟩
theorem cv_L_154 : wV RL 154 RX4 yX4_hour cX4_hour 1 (some .int) := ⟨wAll_i 792 (by decide +kernel) (by decide +kernel), wAll_i 793 (by decide +kernel) (by decide +kernel), wAll_i 794 (by decide +kernel) (by decide +kernel), wAll_i 27 (by decide +kernel) (by decide +kernel), wAll_i 795 (by decide +kernel) (by decide +kernel)⟩
end
section
/-! ===== printed decode rows ===== -/
theorem dX0_init_0 : decode cX0_init 0 = .ok (.aload_n 0, 1) := by decide +kernel
theorem dX0_init_1 : decode cX0_init 1 = .ok (.invokespecial 3, 3) := by decide +kernel
theorem dX0_init_4 : decode cX0_init 4 = .ok (.aload_n 0, 1) := by decide +kernel
theorem dX0_init_5 : decode cX0_init 5 = .ok (.iconst 4, 1) := by decide +kernel
theorem dX0_init_6 : decode cX0_init 6 = .ok (.newarray .int, 2) := by decide +kernel
theorem dX0_init_8 : decode cX0_init 8 = .ok (.putfield 9, 3) := by decide +kernel
theorem dX0_init_11 : decode cX0_init 11 = .ok (.aload_n 0, 1) := by decide +kernel
theorem dX0_init_12 : decode cX0_init 12 = .ok (.iconst 0, 1) := by decide +kernel
theorem dX0_init_13 : decode cX0_init 13 = .ok (.putfield 15, 3) := by decide +kernel
theorem dX0_init_16 : decode cX0_init 16 = .ok (.aload_n 0, 1) := by decide +kernel
theorem dX0_init_17 : decode cX0_init 17 = .ok (.iconst (-1), 1) := by decide +kernel
theorem dX0_init_18 : decode cX0_init 18 = .ok (.putfield 19, 3) := by decide +kernel
theorem dX0_init_21 : decode cX0_init 21 = .ok (.aload_n 0, 1) := by decide +kernel
theorem dX0_init_22 : decode cX0_init 22 = .ok (.iconst (-1), 1) := by decide +kernel
theorem dX0_init_23 : decode cX0_init 23 = .ok (.putfield 22, 3) := by decide +kernel
theorem dX0_init_26 : decode cX0_init 26 = .ok (.aload_n 0, 1) := by decide +kernel
theorem dX0_init_27 : decode cX0_init 27 = .ok (.iconst (-1), 1) := by decide +kernel
theorem dX0_init_28 : decode cX0_init 28 = .ok (.putfield 25, 3) := by decide +kernel
theorem dX0_init_31 : decode cX0_init 31 = .ok (.aload_n 0, 1) := by decide +kernel
theorem dX0_init_32 : decode cX0_init 32 = .ok (.iconst 0, 1) := by decide +kernel
theorem dX0_init_33 : decode cX0_init 33 = .ok (.putfield 28, 3) := by decide +kernel
theorem dX0_init_36 : decode cX0_init 36 = .ok (.aload_n 0, 1) := by decide +kernel
theorem dX0_init_37 : decode cX0_init 37 = .ok (.iconst 0, 1) := by decide +kernel
theorem dX0_init_38 : decode cX0_init 38 = .ok (.putfield 32, 3) := by decide +kernel
theorem dX0_init_41 : decode cX0_init 41 = .ok (.aload_n 0, 1) := by decide +kernel
theorem dX0_init_42 : decode cX0_init 42 = .ok (.iload_n 1, 1) := by decide +kernel
theorem dX0_init_43 : decode cX0_init 43 = .ok (.putfield 35, 3) := by decide +kernel
theorem dX0_init_46 : decode cX0_init 46 = .ok (.aload_n 0, 1) := by decide +kernel
theorem dX0_init_47 : decode cX0_init 47 = .ok (.aload_n 2, 1) := by decide +kernel
theorem dX0_init_48 : decode cX0_init 48 = .ok (.putfield 38, 3) := by decide +kernel
theorem dX0_init_51 : decode cX0_init 51 = .ok (.aload_n 0, 1) := by decide +kernel
theorem dX0_init_52 : decode cX0_init 52 = .ok (.iload_n 3, 1) := by decide +kernel
theorem dX0_init_53 : decode cX0_init 53 = .ok (.putfield 42, 3) := by decide +kernel
theorem dX0_init_56 : decode cX0_init 56 = .ok (.return_, 1) := by decide +kernel
theorem dX0_settleAt_0 : decode cX0_settleAt 0 = .ok (.aload_n 0, 1) := by decide +kernel
theorem dX0_settleAt_1 : decode cX0_settleAt 1 = .ok (.iload_n 1, 1) := by decide +kernel
theorem dX0_settleAt_2 : decode cX0_settleAt 2 = .ok (.putfield 19, 3) := by decide +kernel
theorem dX0_settleAt_5 : decode cX0_settleAt 5 = .ok (.aload_n 0, 1) := by decide +kernel
theorem dX0_settleAt_6 : decode cX0_settleAt 6 = .ok (.iload_n 2, 1) := by decide +kernel
theorem dX0_settleAt_7 : decode cX0_settleAt 7 = .ok (.putfield 22, 3) := by decide +kernel
theorem dX0_settleAt_10 : decode cX0_settleAt 10 = .ok (.aload_n 0, 1) := by decide +kernel
theorem dX0_settleAt_11 : decode cX0_settleAt 11 = .ok (.iload_n 3, 1) := by decide +kernel
theorem dX0_settleAt_12 : decode cX0_settleAt 12 = .ok (.putfield 25, 3) := by decide +kernel
theorem dX0_settleAt_15 : decode cX0_settleAt 15 = .ok (.aload_n 0, 1) := by decide +kernel
theorem dX0_settleAt_16 : decode cX0_settleAt 16 = .ok (.iconst 0, 1) := by decide +kernel
theorem dX0_settleAt_17 : decode cX0_settleAt 17 = .ok (.putfield 28, 3) := by decide +kernel
theorem dX0_settleAt_20 : decode cX0_settleAt 20 = .ok (.aload_n 0, 1) := by decide +kernel
theorem dX0_settleAt_21 : decode cX0_settleAt 21 = .ok (.iconst 0, 1) := by decide +kernel
theorem dX0_settleAt_22 : decode cX0_settleAt 22 = .ok (.putfield 32, 3) := by decide +kernel
theorem dX0_settleAt_25 : decode cX0_settleAt 25 = .ok (.return_, 1) := by decide +kernel
theorem dX0_takesPartOf_0 : decode cX0_takesPartOf 0 = .ok (.aload_n 0, 1) := by decide +kernel
theorem dX0_takesPartOf_1 : decode cX0_takesPartOf 1 = .ok (.getfield 15, 3) := by decide +kernel
theorem dX0_takesPartOf_4 : decode cX0_takesPartOf 4 = .ok (.ifCond .ne 30, 3) := by decide +kernel
theorem dX0_takesPartOf_7 : decode cX0_takesPartOf 7 = .ok (.aload_n 0, 1) := by decide +kernel
theorem dX0_takesPartOf_8 : decode cX0_takesPartOf 8 = .ok (.getfield 25, 3) := by decide +kernel
theorem dX0_takesPartOf_11 : decode cX0_takesPartOf 11 = .ok (.iload_n 1, 1) := by decide +kernel
theorem dX0_takesPartOf_12 : decode cX0_takesPartOf 12 = .ok (.iload_n 2, 1) := by decide +kernel
theorem dX0_takesPartOf_13 : decode cX0_takesPartOf 13 = .ok (.iadd, 1) := by decide +kernel
theorem dX0_takesPartOf_14 : decode cX0_takesPartOf 14 = .ok (.if_icmp .ge 20, 3) := by decide +kernel
theorem dX0_takesPartOf_17 : decode cX0_takesPartOf 17 = .ok (.iload_n 1, 1) := by decide +kernel
theorem dX0_takesPartOf_18 : decode cX0_takesPartOf 18 = .ok (.aload_n 0, 1) := by decide +kernel
theorem dX0_takesPartOf_19 : decode cX0_takesPartOf 19 = .ok (.getfield 25, 3) := by decide +kernel
theorem dX0_takesPartOf_22 : decode cX0_takesPartOf 22 = .ok (.aload_n 0, 1) := by decide +kernel
theorem dX0_takesPartOf_23 : decode cX0_takesPartOf 23 = .ok (.getfield 42, 3) := by decide +kernel
theorem dX0_takesPartOf_26 : decode cX0_takesPartOf 26 = .ok (.iadd, 1) := by decide +kernel
theorem dX0_takesPartOf_27 : decode cX0_takesPartOf 27 = .ok (.if_icmp .ge 7, 3) := by decide +kernel
theorem dX0_takesPartOf_30 : decode cX0_takesPartOf 30 = .ok (.iconst 1, 1) := by decide +kernel
theorem dX0_takesPartOf_31 : decode cX0_takesPartOf 31 = .ok (.goto 4, 3) := by decide +kernel
theorem dX0_takesPartOf_34 : decode cX0_takesPartOf 34 = .ok (.iconst 0, 1) := by decide +kernel
theorem dX0_takesPartOf_35 : decode cX0_takesPartOf 35 = .ok (.ireturn, 1) := by decide +kernel
theorem dX0_needs_0 : decode cX0_needs 0 = .ok (.iload_n 1, 1) := by decide +kernel
theorem dX0_needs_1 : decode cX0_needs 1 = .ok (.tableswitch 67 0 2 #[27, 41, 58], 27) := by decide +kernel
theorem dX0_needs_28 : decode cX0_needs 28 = .ok (.aload_n 0, 1) := by decide +kernel
theorem dX0_needs_29 : decode cX0_needs 29 = .ok (.getfield 19, 3) := by decide +kernel
theorem dX0_needs_32 : decode cX0_needs 32 = .ok (.iload_n 2, 1) := by decide +kernel
theorem dX0_needs_33 : decode cX0_needs 33 = .ok (.if_icmp .ne 7, 3) := by decide +kernel
theorem dX0_needs_36 : decode cX0_needs 36 = .ok (.iconst 1, 1) := by decide +kernel
theorem dX0_needs_37 : decode cX0_needs 37 = .ok (.goto 4, 3) := by decide +kernel
theorem dX0_needs_40 : decode cX0_needs 40 = .ok (.iconst 0, 1) := by decide +kernel
theorem dX0_needs_41 : decode cX0_needs 41 = .ok (.ireturn, 1) := by decide +kernel
theorem dX0_needs_42 : decode cX0_needs 42 = .ok (.aload_n 0, 1) := by decide +kernel
theorem dX0_needs_43 : decode cX0_needs 43 = .ok (.getfield 38, 3) := by decide +kernel
theorem dX0_needs_46 : decode cX0_needs 46 = .ok (.getfield 45, 3) := by decide +kernel
theorem dX0_needs_49 : decode cX0_needs 49 = .ok (.iload_n 2, 1) := by decide +kernel
theorem dX0_needs_50 : decode cX0_needs 50 = .ok (.if_icmp .ne 7, 3) := by decide +kernel
theorem dX0_needs_53 : decode cX0_needs 53 = .ok (.iconst 1, 1) := by decide +kernel
theorem dX0_needs_54 : decode cX0_needs 54 = .ok (.goto 4, 3) := by decide +kernel
theorem dX0_needs_57 : decode cX0_needs 57 = .ok (.iconst 0, 1) := by decide +kernel
theorem dX0_needs_58 : decode cX0_needs 58 = .ok (.ireturn, 1) := by decide +kernel
theorem dX0_needs_59 : decode cX0_needs 59 = .ok (.aload_n 0, 1) := by decide +kernel
theorem dX0_needs_60 : decode cX0_needs 60 = .ok (.getfield 38, 3) := by decide +kernel
theorem dX0_needs_63 : decode cX0_needs 63 = .ok (.iload_n 2, 1) := by decide +kernel
theorem dX0_needs_64 : decode cX0_needs 64 = .ok (.invokevirtual 50, 3) := by decide +kernel
theorem dX0_needs_67 : decode cX0_needs 67 = .ok (.ireturn, 1) := by decide +kernel
theorem dX0_needs_68 : decode cX0_needs 68 = .ok (.aload_n 0, 1) := by decide +kernel
theorem dX0_needs_69 : decode cX0_needs 69 = .ok (.getfield 22, 3) := by decide +kernel
theorem dX0_needs_72 : decode cX0_needs 72 = .ok (.iload_n 2, 1) := by decide +kernel
theorem dX0_needs_73 : decode cX0_needs 73 = .ok (.if_icmp .ne 7, 3) := by decide +kernel
theorem dX0_needs_76 : decode cX0_needs 76 = .ok (.iconst 1, 1) := by decide +kernel
theorem dX0_needs_77 : decode cX0_needs 77 = .ok (.goto 4, 3) := by decide +kernel
theorem dX0_needs_80 : decode cX0_needs 80 = .ok (.iconst 0, 1) := by decide +kernel
theorem dX0_needs_81 : decode cX0_needs 81 = .ok (.ireturn, 1) := by decide +kernel
theorem dX0_reasonAgainst_0 : decode cX0_reasonAgainst 0 = .ok (.aload_n 0, 1) := by decide +kernel
theorem dX0_reasonAgainst_1 : decode cX0_reasonAgainst 1 = .ok (.iconst 0, 1) := by decide +kernel
theorem dX0_reasonAgainst_2 : decode cX0_reasonAgainst 2 = .ok (.iload_n 2, 1) := by decide +kernel
theorem dX0_reasonAgainst_3 : decode cX0_reasonAgainst 3 = .ok (.invokevirtual 54, 3) := by decide +kernel
theorem dX0_reasonAgainst_6 : decode cX0_reasonAgainst 6 = .ok (.ifCond .eq 5, 3) := by decide +kernel
theorem dX0_reasonAgainst_9 : decode cX0_reasonAgainst 9 = .ok (.iconst 1, 1) := by decide +kernel
theorem dX0_reasonAgainst_10 : decode cX0_reasonAgainst 10 = .ok (.ireturn, 1) := by decide +kernel
theorem dX0_reasonAgainst_11 : decode cX0_reasonAgainst 11 = .ok (.aload_n 0, 1) := by decide +kernel
theorem dX0_reasonAgainst_12 : decode cX0_reasonAgainst 12 = .ok (.iconst 1, 1) := by decide +kernel
theorem dX0_reasonAgainst_13 : decode cX0_reasonAgainst 13 = .ok (.aload_n 1, 1) := by decide +kernel
theorem dX0_reasonAgainst_14 : decode cX0_reasonAgainst 14 = .ok (.getfield 45, 3) := by decide +kernel
theorem dX0_reasonAgainst_17 : decode cX0_reasonAgainst 17 = .ok (.invokevirtual 54, 3) := by decide +kernel
theorem dX0_reasonAgainst_20 : decode cX0_reasonAgainst 20 = .ok (.ifCond .eq 5, 3) := by decide +kernel
theorem dX0_reasonAgainst_23 : decode cX0_reasonAgainst 23 = .ok (.iconst 2, 1) := by decide +kernel
theorem dX0_reasonAgainst_24 : decode cX0_reasonAgainst 24 = .ok (.ireturn, 1) := by decide +kernel
theorem dX0_reasonAgainst_25 : decode cX0_reasonAgainst 25 = .ok (.aload_n 0, 1) := by decide +kernel
theorem dX0_reasonAgainst_26 : decode cX0_reasonAgainst 26 = .ok (.iconst 2, 1) := by decide +kernel
theorem dX0_reasonAgainst_27 : decode cX0_reasonAgainst 27 = .ok (.aload_n 1, 1) := by decide +kernel
theorem dX0_reasonAgainst_28 : decode cX0_reasonAgainst 28 = .ok (.getfield 58, 3) := by decide +kernel
theorem dX0_reasonAgainst_31 : decode cX0_reasonAgainst 31 = .ok (.invokevirtual 54, 3) := by decide +kernel
theorem dX0_reasonAgainst_34 : decode cX0_reasonAgainst 34 = .ok (.ifCond .ne 15, 3) := by decide +kernel
theorem dX0_reasonAgainst_37 : decode cX0_reasonAgainst 37 = .ok (.aload_n 0, 1) := by decide +kernel
theorem dX0_reasonAgainst_38 : decode cX0_reasonAgainst 38 = .ok (.iconst 2, 1) := by decide +kernel
theorem dX0_reasonAgainst_39 : decode cX0_reasonAgainst 39 = .ok (.aload_n 1, 1) := by decide +kernel
theorem dX0_reasonAgainst_40 : decode cX0_reasonAgainst 40 = .ok (.getfield 61, 3) := by decide +kernel
theorem dX0_reasonAgainst_43 : decode cX0_reasonAgainst 43 = .ok (.invokevirtual 54, 3) := by decide +kernel
theorem dX0_reasonAgainst_46 : decode cX0_reasonAgainst 46 = .ok (.ifCond .eq 5, 3) := by decide +kernel
theorem dX0_reasonAgainst_49 : decode cX0_reasonAgainst 49 = .ok (.iconst 3, 1) := by decide +kernel
theorem dX0_reasonAgainst_50 : decode cX0_reasonAgainst 50 = .ok (.ireturn, 1) := by decide +kernel
theorem dX0_reasonAgainst_51 : decode cX0_reasonAgainst 51 = .ok (.iload_n 3, 1) := by decide +kernel
theorem dX0_reasonAgainst_52 : decode cX0_reasonAgainst 52 = .ok (.iconst (-1), 1) := by decide +kernel
theorem dX0_reasonAgainst_53 : decode cX0_reasonAgainst 53 = .ok (.if_icmp .eq 16, 3) := by decide +kernel
theorem dX0_reasonAgainst_56 : decode cX0_reasonAgainst 56 = .ok (.aload_n 0, 1) := by decide +kernel
theorem dX0_reasonAgainst_57 : decode cX0_reasonAgainst 57 = .ok (.iconst 3, 1) := by decide +kernel
theorem dX0_reasonAgainst_58 : decode cX0_reasonAgainst 58 = .ok (.iload_n 3, 1) := by decide +kernel
theorem dX0_reasonAgainst_59 : decode cX0_reasonAgainst 59 = .ok (.invokevirtual 54, 3) := by decide +kernel
theorem dX0_reasonAgainst_62 : decode cX0_reasonAgainst 62 = .ok (.ifCond .eq 7, 3) := by decide +kernel
theorem dX0_reasonAgainst_65 : decode cX0_reasonAgainst 65 = .ok (.iconst 4, 1) := by decide +kernel
theorem dX0_reasonAgainst_66 : decode cX0_reasonAgainst 66 = .ok (.goto 4, 3) := by decide +kernel
theorem dX0_reasonAgainst_69 : decode cX0_reasonAgainst 69 = .ok (.iconst 0, 1) := by decide +kernel
theorem dX0_reasonAgainst_70 : decode cX0_reasonAgainst 70 = .ok (.ireturn, 1) := by decide +kernel
theorem dX0_tell_0 : decode cX0_tell 0 = .ok (.iload_n 1, 1) := by decide +kernel
theorem dX0_tell_1 : decode cX0_tell 1 = .ok (.aload_n 0, 1) := by decide +kernel
theorem dX0_tell_2 : decode cX0_tell 2 = .ok (.getfield 38, 3) := by decide +kernel
theorem dX0_tell_5 : decode cX0_tell 5 = .ok (.getfield 58, 3) := by decide +kernel
theorem dX0_tell_8 : decode cX0_tell 8 = .ok (.if_icmp .ne 8, 3) := by decide +kernel
theorem dX0_tell_11 : decode cX0_tell 11 = .ok (.aload_n 0, 1) := by decide +kernel
theorem dX0_tell_12 : decode cX0_tell 12 = .ok (.iconst 1, 1) := by decide +kernel
theorem dX0_tell_13 : decode cX0_tell 13 = .ok (.putfield 28, 3) := by decide +kernel
theorem dX0_tell_16 : decode cX0_tell 16 = .ok (.iload_n 1, 1) := by decide +kernel
theorem dX0_tell_17 : decode cX0_tell 17 = .ok (.aload_n 0, 1) := by decide +kernel
theorem dX0_tell_18 : decode cX0_tell 18 = .ok (.getfield 38, 3) := by decide +kernel
theorem dX0_tell_21 : decode cX0_tell 21 = .ok (.getfield 61, 3) := by decide +kernel
theorem dX0_tell_24 : decode cX0_tell 24 = .ok (.if_icmp .ne 8, 3) := by decide +kernel
theorem dX0_tell_27 : decode cX0_tell 27 = .ok (.aload_n 0, 1) := by decide +kernel
theorem dX0_tell_28 : decode cX0_tell 28 = .ok (.iconst 1, 1) := by decide +kernel
theorem dX0_tell_29 : decode cX0_tell 29 = .ok (.putfield 32, 3) := by decide +kernel
theorem dX0_tell_32 : decode cX0_tell 32 = .ok (.return_, 1) := by decide +kernel
theorem dX0_notices_0 : decode cX0_notices 0 = .ok (.aload_n 0, 1) := by decide +kernel
theorem dX0_notices_1 : decode cX0_notices 1 = .ok (.getfield 28, 3) := by decide +kernel
theorem dX0_notices_4 : decode cX0_notices 4 = .ok (.ifCond .eq 7, 3) := by decide +kernel
theorem dX0_notices_7 : decode cX0_notices 7 = .ok (.iconst 1, 1) := by decide +kernel
theorem dX0_notices_8 : decode cX0_notices 8 = .ok (.goto 4, 3) := by decide +kernel
theorem dX0_notices_11 : decode cX0_notices 11 = .ok (.iconst 0, 1) := by decide +kernel
theorem dX0_notices_12 : decode cX0_notices 12 = .ok (.aload_n 0, 1) := by decide +kernel
theorem dX0_notices_13 : decode cX0_notices 13 = .ok (.getfield 32, 3) := by decide +kernel
theorem dX0_notices_16 : decode cX0_notices 16 = .ok (.ifCond .eq 7, 3) := by decide +kernel
theorem dX0_notices_19 : decode cX0_notices 19 = .ok (.iconst 1, 1) := by decide +kernel
theorem dX0_notices_20 : decode cX0_notices 20 = .ok (.goto 4, 3) := by decide +kernel
theorem dX0_notices_23 : decode cX0_notices 23 = .ok (.iconst 0, 1) := by decide +kernel
theorem dX0_notices_24 : decode cX0_notices 24 = .ok (.iadd, 1) := by decide +kernel
theorem dX0_notices_25 : decode cX0_notices 25 = .ok (.ireturn, 1) := by decide +kernel
theorem dX0_charged_0 : decode cX0_charged 0 = .ok (.iconst 0, 1) := by decide +kernel
theorem dX0_charged_1 : decode cX0_charged 1 = .ok (.istore_n 1, 1) := by decide +kernel
theorem dX0_charged_2 : decode cX0_charged 2 = .ok (.iconst 0, 1) := by decide +kernel
theorem dX0_charged_3 : decode cX0_charged 3 = .ok (.istore_n 2, 1) := by decide +kernel
theorem dX0_charged_4 : decode cX0_charged 4 = .ok (.iload_n 2, 1) := by decide +kernel
theorem dX0_charged_5 : decode cX0_charged 5 = .ok (.aload_n 0, 1) := by decide +kernel
theorem dX0_charged_6 : decode cX0_charged 6 = .ok (.getfield 9, 3) := by decide +kernel
theorem dX0_charged_9 : decode cX0_charged 9 = .ok (.arraylength, 1) := by decide +kernel
theorem dX0_charged_10 : decode cX0_charged 10 = .ok (.if_icmp .ge 18, 3) := by decide +kernel
theorem dX0_charged_13 : decode cX0_charged 13 = .ok (.iload_n 1, 1) := by decide +kernel
theorem dX0_charged_14 : decode cX0_charged 14 = .ok (.aload_n 0, 1) := by decide +kernel
theorem dX0_charged_15 : decode cX0_charged 15 = .ok (.getfield 9, 3) := by decide +kernel
theorem dX0_charged_18 : decode cX0_charged 18 = .ok (.iload_n 2, 1) := by decide +kernel
theorem dX0_charged_19 : decode cX0_charged 19 = .ok (.iaload, 1) := by decide +kernel
theorem dX0_charged_20 : decode cX0_charged 20 = .ok (.iadd, 1) := by decide +kernel
theorem dX0_charged_21 : decode cX0_charged 21 = .ok (.istore_n 1, 1) := by decide +kernel
theorem dX0_charged_22 : decode cX0_charged 22 = .ok (.iinc 2 1, 3) := by decide +kernel
theorem dX0_charged_25 : decode cX0_charged 25 = .ok (.goto (-21), 3) := by decide +kernel
theorem dX0_charged_28 : decode cX0_charged 28 = .ok (.iload_n 1, 1) := by decide +kernel
theorem dX0_charged_29 : decode cX0_charged 29 = .ok (.ireturn, 1) := by decide +kernel
theorem dX0_end_0 : decode cX0_end 0 = .ok (.aload_n 0, 1) := by decide +kernel
theorem dX0_end_1 : decode cX0_end 1 = .ok (.getfield 38, 3) := by decide +kernel
theorem dX0_end_4 : decode cX0_end 4 = .ok (.invokevirtual 64, 3) := by decide +kernel
theorem dX0_end_7 : decode cX0_end 7 = .ok (.ifCond .eq 33, 3) := by decide +kernel
theorem dX0_end_10 : decode cX0_end 10 = .ok (.aload_n 0, 1) := by decide +kernel
theorem dX0_end_11 : decode cX0_end 11 = .ok (.getfield 28, 3) := by decide +kernel
theorem dX0_end_14 : decode cX0_end 14 = .ok (.ifCond .eq 26, 3) := by decide +kernel
theorem dX0_end_17 : decode cX0_end 17 = .ok (.aload_n 0, 1) := by decide +kernel
theorem dX0_end_18 : decode cX0_end 18 = .ok (.getfield 32, 3) := by decide +kernel
theorem dX0_end_21 : decode cX0_end 21 = .ok (.ifCond .eq 19, 3) := by decide +kernel
theorem dX0_end_24 : decode cX0_end 24 = .ok (.aload_n 0, 1) := by decide +kernel
theorem dX0_end_25 : decode cX0_end 25 = .ok (.iconst 1, 1) := by decide +kernel
theorem dX0_end_26 : decode cX0_end 26 = .ok (.putfield 15, 3) := by decide +kernel
theorem dX0_end_29 : decode cX0_end 29 = .ok (.aload_n 0, 1) := by decide +kernel
theorem dX0_end_30 : decode cX0_end 30 = .ok (.getfield 38, 3) := by decide +kernel
theorem dX0_end_33 : decode cX0_end 33 = .ok (.iconst 1, 1) := by decide +kernel
theorem dX0_end_34 : decode cX0_end 34 = .ok (.putfield 68, 3) := by decide +kernel
theorem dX0_end_37 : decode cX0_end 37 = .ok (.goto 8, 3) := by decide +kernel
theorem dX0_end_40 : decode cX0_end 40 = .ok (.aload_n 0, 1) := by decide +kernel
theorem dX0_end_41 : decode cX0_end 41 = .ok (.iconst 2, 1) := by decide +kernel
theorem dX0_end_42 : decode cX0_end 42 = .ok (.putfield 15, 3) := by decide +kernel
theorem dX0_end_45 : decode cX0_end 45 = .ok (.return_, 1) := by decide +kernel
theorem dX1_init_0 : decode cX1_init 0 = .ok (.aload_n 0, 1) := by decide +kernel
theorem dX1_init_1 : decode cX1_init 1 = .ok (.invokespecial 3, 3) := by decide +kernel
theorem dX1_init_4 : decode cX1_init 4 = .ok (.aload_n 0, 1) := by decide +kernel
theorem dX1_init_5 : decode cX1_init 5 = .ok (.iconst 0, 1) := by decide +kernel
theorem dX1_init_6 : decode cX1_init 6 = .ok (.putfield 9, 3) := by decide +kernel
theorem dX1_init_9 : decode cX1_init 9 = .ok (.aload_n 0, 1) := by decide +kernel
theorem dX1_init_10 : decode cX1_init 10 = .ok (.bipush 10, 2) := by decide +kernel
theorem dX1_init_12 : decode cX1_init 12 = .ok (.putfield 15, 3) := by decide +kernel
theorem dX1_init_15 : decode cX1_init 15 = .ok (.aload_n 0, 1) := by decide +kernel
theorem dX1_init_16 : decode cX1_init 16 = .ok (.bipush 16, 2) := by decide +kernel
theorem dX1_init_18 : decode cX1_init 18 = .ok (.newarray .int, 2) := by decide +kernel
theorem dX1_init_20 : decode cX1_init 20 = .ok (.putfield 18, 3) := by decide +kernel
theorem dX1_init_23 : decode cX1_init 23 = .ok (.aload_n 0, 1) := by decide +kernel
theorem dX1_init_24 : decode cX1_init 24 = .ok (.bipush 16, 2) := by decide +kernel
theorem dX1_init_26 : decode cX1_init 26 = .ok (.anewarray 22, 3) := by decide +kernel
theorem dX1_init_29 : decode cX1_init 29 = .ok (.putfield 24, 3) := by decide +kernel
theorem dX1_init_32 : decode cX1_init 32 = .ok (.aload_n 0, 1) := by decide +kernel
theorem dX1_init_33 : decode cX1_init 33 = .ok (.bipush 16, 2) := by decide +kernel
theorem dX1_init_35 : decode cX1_init 35 = .ok (.newarray .int, 2) := by decide +kernel
theorem dX1_init_37 : decode cX1_init 37 = .ok (.putfield 28, 3) := by decide +kernel
theorem dX1_init_40 : decode cX1_init 40 = .ok (.return_, 1) := by decide +kernel
theorem dX1_placeOf_0 : decode cX1_placeOf 0 = .ok (.iload_n 0, 1) := by decide +kernel
theorem dX1_placeOf_1 : decode cX1_placeOf 1 = .ok (.bipush 15, 2) := by decide +kernel
theorem dX1_placeOf_3 : decode cX1_placeOf 3 = .ok (.iand, 1) := by decide +kernel
theorem dX1_placeOf_4 : decode cX1_placeOf 4 = .ok (.ireturn, 1) := by decide +kernel
theorem dX1_knows_0 : decode cX1_knows 0 = .ok (.aload_n 0, 1) := by decide +kernel
theorem dX1_knows_1 : decode cX1_knows 1 = .ok (.getfield 9, 3) := by decide +kernel
theorem dX1_knows_4 : decode cX1_knows 4 = .ok (.iload_n 1, 1) := by decide +kernel
theorem dX1_knows_5 : decode cX1_knows 5 = .ok (.ishr, 1) := by decide +kernel
theorem dX1_knows_6 : decode cX1_knows 6 = .ok (.iconst 1, 1) := by decide +kernel
theorem dX1_knows_7 : decode cX1_knows 7 = .ok (.iand, 1) := by decide +kernel
theorem dX1_knows_8 : decode cX1_knows 8 = .ok (.iconst 1, 1) := by decide +kernel
theorem dX1_knows_9 : decode cX1_knows 9 = .ok (.if_icmp .ne 7, 3) := by decide +kernel
theorem dX1_knows_12 : decode cX1_knows 12 = .ok (.iconst 1, 1) := by decide +kernel
theorem dX1_knows_13 : decode cX1_knows 13 = .ok (.goto 4, 3) := by decide +kernel
theorem dX1_knows_16 : decode cX1_knows 16 = .ok (.iconst 0, 1) := by decide +kernel
theorem dX1_knows_17 : decode cX1_knows 17 = .ok (.ireturn, 1) := by decide +kernel
theorem dX1_payer_0 : decode cX1_payer 0 = .ok (.iload_n 1, 1) := by decide +kernel
theorem dX1_payer_1 : decode cX1_payer 1 = .ok (.invokestatic 31, 3) := by decide +kernel
theorem dX1_payer_4 : decode cX1_payer 4 = .ok (.istore_n 3, 1) := by decide +kernel
theorem dX1_payer_5 : decode cX1_payer 5 = .ok (.iload_n 1, 1) := by decide +kernel
theorem dX1_payer_6 : decode cX1_payer 6 = .ok (.iload_n 2, 1) := by decide +kernel
theorem dX1_payer_7 : decode cX1_payer 7 = .ok (.if_icmp .le 22, 3) := by decide +kernel
theorem dX1_payer_10 : decode cX1_payer 10 = .ok (.aload_n 0, 1) := by decide +kernel
theorem dX1_payer_11 : decode cX1_payer 11 = .ok (.getfield 18, 3) := by decide +kernel
theorem dX1_payer_14 : decode cX1_payer 14 = .ok (.iload_n 3, 1) := by decide +kernel
theorem dX1_payer_15 : decode cX1_payer 15 = .ok (.iaload, 1) := by decide +kernel
theorem dX1_payer_16 : decode cX1_payer 16 = .ok (.iload_n 1, 1) := by decide +kernel
theorem dX1_payer_17 : decode cX1_payer 17 = .ok (.if_icmp .ne 12, 3) := by decide +kernel
theorem dX1_payer_20 : decode cX1_payer 20 = .ok (.aload_n 0, 1) := by decide +kernel
theorem dX1_payer_21 : decode cX1_payer 21 = .ok (.getfield 24, 3) := by decide +kernel
theorem dX1_payer_24 : decode cX1_payer 24 = .ok (.iload_n 3, 1) := by decide +kernel
theorem dX1_payer_25 : decode cX1_payer 25 = .ok (.aaload, 1) := by decide +kernel
theorem dX1_payer_26 : decode cX1_payer 26 = .ok (.goto 4, 3) := by decide +kernel
theorem dX1_payer_29 : decode cX1_payer 29 = .ok (.aconst_null, 1) := by decide +kernel
theorem dX1_payer_30 : decode cX1_payer 30 = .ok (.areturn, 1) := by decide +kernel
theorem dX1_keep_0 : decode cX1_keep 0 = .ok (.iload_n 1, 1) := by decide +kernel
theorem dX1_keep_1 : decode cX1_keep 1 = .ok (.invokestatic 31, 3) := by decide +kernel
theorem dX1_keep_4 : decode cX1_keep 4 = .ok (.istore 4, 2) := by decide +kernel
theorem dX1_keep_6 : decode cX1_keep 6 = .ok (.aload_n 0, 1) := by decide +kernel
theorem dX1_keep_7 : decode cX1_keep 7 = .ok (.getfield 18, 3) := by decide +kernel
theorem dX1_keep_10 : decode cX1_keep 10 = .ok (.iload 4, 2) := by decide +kernel
theorem dX1_keep_12 : decode cX1_keep 12 = .ok (.iload_n 1, 1) := by decide +kernel
theorem dX1_keep_13 : decode cX1_keep 13 = .ok (.iastore, 1) := by decide +kernel
theorem dX1_keep_14 : decode cX1_keep 14 = .ok (.aload_n 0, 1) := by decide +kernel
theorem dX1_keep_15 : decode cX1_keep 15 = .ok (.getfield 24, 3) := by decide +kernel
theorem dX1_keep_18 : decode cX1_keep 18 = .ok (.iload 4, 2) := by decide +kernel
theorem dX1_keep_20 : decode cX1_keep 20 = .ok (.aload_n 2, 1) := by decide +kernel
theorem dX1_keep_21 : decode cX1_keep 21 = .ok (.aastore, 1) := by decide +kernel
theorem dX1_keep_22 : decode cX1_keep 22 = .ok (.aload_n 0, 1) := by decide +kernel
theorem dX1_keep_23 : decode cX1_keep 23 = .ok (.getfield 28, 3) := by decide +kernel
theorem dX1_keep_26 : decode cX1_keep 26 = .ok (.iload 4, 2) := by decide +kernel
theorem dX1_keep_28 : decode cX1_keep 28 = .ok (.iload_n 3, 1) := by decide +kernel
theorem dX1_keep_29 : decode cX1_keep 29 = .ok (.iastore, 1) := by decide +kernel
theorem dX1_keep_30 : decode cX1_keep 30 = .ok (.return_, 1) := by decide +kernel
theorem dX1_take_0 : decode cX1_take 0 = .ok (.aload_n 0, 1) := by decide +kernel
theorem dX1_take_1 : decode cX1_take 1 = .ok (.iload_n 1, 1) := by decide +kernel
theorem dX1_take_2 : decode cX1_take 2 = .ok (.iload_n 2, 1) := by decide +kernel
theorem dX1_take_3 : decode cX1_take 3 = .ok (.invokevirtual 35, 3) := by decide +kernel
theorem dX1_take_6 : decode cX1_take 6 = .ok (.astore 4, 2) := by decide +kernel
theorem dX1_take_8 : decode cX1_take 8 = .ok (.aload 4, 2) := by decide +kernel
theorem dX1_take_10 : decode cX1_take 10 = .ok (.ifnonnull 8, 3) := by decide +kernel
theorem dX1_take_13 : decode cX1_take 13 = .ok (.aload_n 0, 1) := by decide +kernel
theorem dX1_take_14 : decode cX1_take 14 = .ok (.getfield 15, 3) := by decide +kernel
theorem dX1_take_17 : decode cX1_take 17 = .ok (.ireturn, 1) := by decide +kernel
theorem dX1_take_18 : decode cX1_take 18 = .ok (.iload_n 1, 1) := by decide +kernel
theorem dX1_take_19 : decode cX1_take 19 = .ok (.invokestatic 31, 3) := by decide +kernel
theorem dX1_take_22 : decode cX1_take 22 = .ok (.istore 5, 2) := by decide +kernel
theorem dX1_take_24 : decode cX1_take 24 = .ok (.aload_n 0, 1) := by decide +kernel
theorem dX1_take_25 : decode cX1_take 25 = .ok (.getfield 24, 3) := by decide +kernel
theorem dX1_take_28 : decode cX1_take 28 = .ok (.iload 5, 2) := by decide +kernel
theorem dX1_take_30 : decode cX1_take 30 = .ok (.aconst_null, 1) := by decide +kernel
theorem dX1_take_31 : decode cX1_take 31 = .ok (.aastore, 1) := by decide +kernel
theorem dX1_take_32 : decode cX1_take 32 = .ok (.aload 4, 2) := by decide +kernel
theorem dX1_take_34 : decode cX1_take 34 = .ok (.aload_n 3, 1) := by decide +kernel
theorem dX1_take_35 : decode cX1_take 35 = .ok (.if_acmp .ne 5, 3) := by decide +kernel
theorem dX1_take_38 : decode cX1_take 38 = .ok (.iconst 0, 1) := by decide +kernel
theorem dX1_take_39 : decode cX1_take 39 = .ok (.ireturn, 1) := by decide +kernel
theorem dX1_take_40 : decode cX1_take 40 = .ok (.aload_n 0, 1) := by decide +kernel
theorem dX1_take_41 : decode cX1_take 41 = .ok (.getfield 28, 3) := by decide +kernel
theorem dX1_take_44 : decode cX1_take 44 = .ok (.iload 5, 2) := by decide +kernel
theorem dX1_take_46 : decode cX1_take 46 = .ok (.iaload, 1) := by decide +kernel
theorem dX1_take_47 : decode cX1_take 47 = .ok (.iconst 2, 1) := by decide +kernel
theorem dX1_take_48 : decode cX1_take 48 = .ok (.idiv, 1) := by decide +kernel
theorem dX1_take_49 : decode cX1_take 49 = .ok (.istore 6, 2) := by decide +kernel
theorem dX1_take_51 : decode cX1_take 51 = .ok (.aload 4, 2) := by decide +kernel
theorem dX1_take_53 : decode cX1_take 53 = .ok (.dup, 1) := by decide +kernel
theorem dX1_take_54 : decode cX1_take 54 = .ok (.getfield 39, 3) := by decide +kernel
theorem dX1_take_57 : decode cX1_take 57 = .ok (.iload 6, 2) := by decide +kernel
theorem dX1_take_59 : decode cX1_take 59 = .ok (.iadd, 1) := by decide +kernel
theorem dX1_take_60 : decode cX1_take 60 = .ok (.putfield 39, 3) := by decide +kernel
theorem dX1_take_63 : decode cX1_take 63 = .ok (.iload 6, 2) := by decide +kernel
theorem dX1_take_65 : decode cX1_take 65 = .ok (.ireturn, 1) := by decide +kernel
theorem dX1_hoursPaidBy_0 : decode cX1_hoursPaidBy 0 = .ok (.iconst 0, 1) := by decide +kernel
theorem dX1_hoursPaidBy_1 : decode cX1_hoursPaidBy 1 = .ok (.istore_n 3, 1) := by decide +kernel
theorem dX1_hoursPaidBy_2 : decode cX1_hoursPaidBy 2 = .ok (.iconst 0, 1) := by decide +kernel
theorem dX1_hoursPaidBy_3 : decode cX1_hoursPaidBy 3 = .ok (.istore 4, 2) := by decide +kernel
theorem dX1_hoursPaidBy_5 : decode cX1_hoursPaidBy 5 = .ok (.iload 4, 2) := by decide +kernel
theorem dX1_hoursPaidBy_7 : decode cX1_hoursPaidBy 7 = .ok (.bipush 16, 2) := by decide +kernel
theorem dX1_hoursPaidBy_9 : decode cX1_hoursPaidBy 9 = .ok (.if_icmp .ge 34, 3) := by decide +kernel
theorem dX1_hoursPaidBy_12 : decode cX1_hoursPaidBy 12 = .ok (.aload_n 0, 1) := by decide +kernel
theorem dX1_hoursPaidBy_13 : decode cX1_hoursPaidBy 13 = .ok (.getfield 24, 3) := by decide +kernel
theorem dX1_hoursPaidBy_16 : decode cX1_hoursPaidBy 16 = .ok (.iload 4, 2) := by decide +kernel
theorem dX1_hoursPaidBy_18 : decode cX1_hoursPaidBy 18 = .ok (.aaload, 1) := by decide +kernel
theorem dX1_hoursPaidBy_19 : decode cX1_hoursPaidBy 19 = .ok (.aload_n 1, 1) := by decide +kernel
theorem dX1_hoursPaidBy_20 : decode cX1_hoursPaidBy 20 = .ok (.if_acmp .ne 17, 3) := by decide +kernel
theorem dX1_hoursPaidBy_23 : decode cX1_hoursPaidBy 23 = .ok (.aload_n 0, 1) := by decide +kernel
theorem dX1_hoursPaidBy_24 : decode cX1_hoursPaidBy 24 = .ok (.getfield 18, 3) := by decide +kernel
theorem dX1_hoursPaidBy_27 : decode cX1_hoursPaidBy 27 = .ok (.iload 4, 2) := by decide +kernel
theorem dX1_hoursPaidBy_29 : decode cX1_hoursPaidBy 29 = .ok (.iaload, 1) := by decide +kernel
theorem dX1_hoursPaidBy_30 : decode cX1_hoursPaidBy 30 = .ok (.iload_n 2, 1) := by decide +kernel
theorem dX1_hoursPaidBy_31 : decode cX1_hoursPaidBy 31 = .ok (.if_icmp .le 6, 3) := by decide +kernel
theorem dX1_hoursPaidBy_34 : decode cX1_hoursPaidBy 34 = .ok (.iinc 3 1, 3) := by decide +kernel
theorem dX1_hoursPaidBy_37 : decode cX1_hoursPaidBy 37 = .ok (.iinc 4 1, 3) := by decide +kernel
theorem dX1_hoursPaidBy_40 : decode cX1_hoursPaidBy 40 = .ok (.goto (-35), 3) := by decide +kernel
theorem dX1_hoursPaidBy_43 : decode cX1_hoursPaidBy 43 = .ok (.iload_n 3, 1) := by decide +kernel
theorem dX1_hoursPaidBy_44 : decode cX1_hoursPaidBy 44 = .ok (.ireturn, 1) := by decide +kernel
theorem dX2_init_0 : decode cX2_init 0 = .ok (.aload_n 0, 1) := by decide +kernel
theorem dX2_init_1 : decode cX2_init 1 = .ok (.invokespecial 3, 3) := by decide +kernel
theorem dX2_init_4 : decode cX2_init 4 = .ok (.aload_n 0, 1) := by decide +kernel
theorem dX2_init_5 : decode cX2_init 5 = .ok (.iconst 0, 1) := by decide +kernel
theorem dX2_init_6 : decode cX2_init 6 = .ok (.putfield 9, 3) := by decide +kernel
theorem dX2_init_9 : decode cX2_init 9 = .ok (.aload_n 0, 1) := by decide +kernel
theorem dX2_init_10 : decode cX2_init 10 = .ok (.iconst 0, 1) := by decide +kernel
theorem dX2_init_11 : decode cX2_init 11 = .ok (.putfield 15, 3) := by decide +kernel
theorem dX2_init_14 : decode cX2_init 14 = .ok (.aload_n 0, 1) := by decide +kernel
theorem dX2_init_15 : decode cX2_init 15 = .ok (.iload_n 1, 1) := by decide +kernel
theorem dX2_init_16 : decode cX2_init 16 = .ok (.putfield 18, 3) := by decide +kernel
theorem dX2_init_19 : decode cX2_init 19 = .ok (.aload_n 0, 1) := by decide +kernel
theorem dX2_init_20 : decode cX2_init 20 = .ok (.iload_n 2, 1) := by decide +kernel
theorem dX2_init_21 : decode cX2_init 21 = .ok (.putfield 21, 3) := by decide +kernel
theorem dX2_init_24 : decode cX2_init 24 = .ok (.aload_n 0, 1) := by decide +kernel
theorem dX2_init_25 : decode cX2_init 25 = .ok (.iload_n 3, 1) := by decide +kernel
theorem dX2_init_26 : decode cX2_init 26 = .ok (.putfield 24, 3) := by decide +kernel
theorem dX2_init_29 : decode cX2_init 29 = .ok (.aload_n 0, 1) := by decide +kernel
theorem dX2_init_30 : decode cX2_init 30 = .ok (.iload 4, 2) := by decide +kernel
theorem dX2_init_32 : decode cX2_init 32 = .ok (.putfield 27, 3) := by decide +kernel
theorem dX2_init_35 : decode cX2_init 35 = .ok (.aload_n 0, 1) := by decide +kernel
theorem dX2_init_36 : decode cX2_init 36 = .ok (.iload 5, 2) := by decide +kernel
theorem dX2_init_38 : decode cX2_init 38 = .ok (.putfield 30, 3) := by decide +kernel
theorem dX2_init_41 : decode cX2_init 41 = .ok (.aload_n 0, 1) := by decide +kernel
theorem dX2_init_42 : decode cX2_init 42 = .ok (.iload 6, 2) := by decide +kernel
theorem dX2_init_44 : decode cX2_init 44 = .ok (.putfield 33, 3) := by decide +kernel
theorem dX2_init_47 : decode cX2_init 47 = .ok (.return_, 1) := by decide +kernel
theorem dX2_isOpen_0 : decode cX2_isOpen 0 = .ok (.aload_n 0, 1) := by decide +kernel
theorem dX2_isOpen_1 : decode cX2_isOpen 1 = .ok (.getfield 9, 3) := by decide +kernel
theorem dX2_isOpen_4 : decode cX2_isOpen 4 = .ok (.ifCond .eq 11, 3) := by decide +kernel
theorem dX2_isOpen_7 : decode cX2_isOpen 7 = .ok (.aload_n 0, 1) := by decide +kernel
theorem dX2_isOpen_8 : decode cX2_isOpen 8 = .ok (.getfield 9, 3) := by decide +kernel
theorem dX2_isOpen_11 : decode cX2_isOpen 11 = .ok (.iconst 1, 1) := by decide +kernel
theorem dX2_isOpen_12 : decode cX2_isOpen 12 = .ok (.if_icmp .ne 7, 3) := by decide +kernel
theorem dX2_isOpen_15 : decode cX2_isOpen 15 = .ok (.iconst 1, 1) := by decide +kernel
theorem dX2_isOpen_16 : decode cX2_isOpen 16 = .ok (.goto 4, 3) := by decide +kernel
theorem dX2_isOpen_19 : decode cX2_isOpen 19 = .ok (.iconst 0, 1) := by decide +kernel
theorem dX2_isOpen_20 : decode cX2_isOpen 20 = .ok (.ireturn, 1) := by decide +kernel
theorem dX2_isOf_0 : decode cX2_isOf 0 = .ok (.iload_n 1, 1) := by decide +kernel
theorem dX2_isOf_1 : decode cX2_isOf 1 = .ok (.aload_n 0, 1) := by decide +kernel
theorem dX2_isOf_2 : decode cX2_isOf 2 = .ok (.getfield 24, 3) := by decide +kernel
theorem dX2_isOf_5 : decode cX2_isOf 5 = .ok (.if_icmp .eq 11, 3) := by decide +kernel
theorem dX2_isOf_8 : decode cX2_isOf 8 = .ok (.iload_n 1, 1) := by decide +kernel
theorem dX2_isOf_9 : decode cX2_isOf 9 = .ok (.aload_n 0, 1) := by decide +kernel
theorem dX2_isOf_10 : decode cX2_isOf 10 = .ok (.getfield 27, 3) := by decide +kernel
theorem dX2_isOf_13 : decode cX2_isOf 13 = .ok (.if_icmp .ne 7, 3) := by decide +kernel
theorem dX2_isOf_16 : decode cX2_isOf 16 = .ok (.iconst 1, 1) := by decide +kernel
theorem dX2_isOf_17 : decode cX2_isOf 17 = .ok (.goto 4, 3) := by decide +kernel
theorem dX2_isOf_20 : decode cX2_isOf 20 = .ok (.iconst 0, 1) := by decide +kernel
theorem dX2_isOf_21 : decode cX2_isOf 21 = .ok (.ireturn, 1) := by decide +kernel
theorem dX2_runTerm_0 : decode cX2_runTerm 0 = .ok (.aload_n 0, 1) := by decide +kernel
theorem dX2_runTerm_1 : decode cX2_runTerm 1 = .ok (.getfield 9, 3) := by decide +kernel
theorem dX2_runTerm_4 : decode cX2_runTerm 4 = .ok (.iconst 3, 1) := by decide +kernel
theorem dX2_runTerm_5 : decode cX2_runTerm 5 = .ok (.if_icmp .ne 16, 3) := by decide +kernel
theorem dX2_runTerm_8 : decode cX2_runTerm 8 = .ok (.aload_n 0, 1) := by decide +kernel
theorem dX2_runTerm_9 : decode cX2_runTerm 9 = .ok (.dup, 1) := by decide +kernel
theorem dX2_runTerm_10 : decode cX2_runTerm 10 = .ok (.getfield 33, 3) := by decide +kernel
theorem dX2_runTerm_13 : decode cX2_runTerm 13 = .ok (.iconst 1, 1) := by decide +kernel
theorem dX2_runTerm_14 : decode cX2_runTerm 14 = .ok (.iadd, 1) := by decide +kernel
theorem dX2_runTerm_15 : decode cX2_runTerm 15 = .ok (.putfield 33, 3) := by decide +kernel
theorem dX2_runTerm_18 : decode cX2_runTerm 18 = .ok (.goto 23, 3) := by decide +kernel
theorem dX2_runTerm_21 : decode cX2_runTerm 21 = .ok (.aload_n 0, 1) := by decide +kernel
theorem dX2_runTerm_22 : decode cX2_runTerm 22 = .ok (.invokevirtual 36, 3) := by decide +kernel
theorem dX2_runTerm_25 : decode cX2_runTerm 25 = .ok (.ifCond .eq 16, 3) := by decide +kernel
theorem dX2_runTerm_28 : decode cX2_runTerm 28 = .ok (.aload_n 0, 1) := by decide +kernel
theorem dX2_runTerm_29 : decode cX2_runTerm 29 = .ok (.getfield 33, 3) := by decide +kernel
theorem dX2_runTerm_32 : decode cX2_runTerm 32 = .ok (.iload_n 1, 1) := by decide +kernel
theorem dX2_runTerm_33 : decode cX2_runTerm 33 = .ok (.if_icmp .gt 8, 3) := by decide +kernel
theorem dX2_runTerm_36 : decode cX2_runTerm 36 = .ok (.aload_n 0, 1) := by decide +kernel
theorem dX2_runTerm_37 : decode cX2_runTerm 37 = .ok (.iconst 5, 1) := by decide +kernel
theorem dX2_runTerm_38 : decode cX2_runTerm 38 = .ok (.putfield 9, 3) := by decide +kernel
theorem dX2_runTerm_41 : decode cX2_runTerm 41 = .ok (.return_, 1) := by decide +kernel
theorem dX3_init_0 : decode cX3_init 0 = .ok (.aload_n 0, 1) := by decide +kernel
theorem dX3_init_1 : decode cX3_init 1 = .ok (.invokespecial 1, 3) := by decide +kernel
theorem dX3_init_4 : decode cX3_init 4 = .ok (.aload_n 0, 1) := by decide +kernel
theorem dX3_init_5 : decode cX3_init 5 = .ok (.iconst 4, 1) := by decide +kernel
theorem dX3_init_6 : decode cX3_init 6 = .ok (.anewarray 9, 3) := by decide +kernel
theorem dX3_init_9 : decode cX3_init 9 = .ok (.putfield 11, 3) := by decide +kernel
theorem dX3_init_12 : decode cX3_init 12 = .ok (.aload_n 0, 1) := by decide +kernel
theorem dX3_init_13 : decode cX3_init 13 = .ok (.bipush 6, 2) := by decide +kernel
theorem dX3_init_15 : decode cX3_init 15 = .ok (.newarray .boolean, 2) := by decide +kernel
theorem dX3_init_17 : decode cX3_init 17 = .ok (.putfield 15, 3) := by decide +kernel
theorem dX3_init_20 : decode cX3_init 20 = .ok (.aload_n 0, 1) := by decide +kernel
theorem dX3_init_21 : decode cX3_init 21 = .ok (.bipush 12, 2) := by decide +kernel
theorem dX3_init_23 : decode cX3_init 23 = .ok (.anewarray 19, 3) := by decide +kernel
theorem dX3_init_26 : decode cX3_init 26 = .ok (.putfield 21, 3) := by decide +kernel
theorem dX3_init_29 : decode cX3_init 29 = .ok (.aload_n 0, 1) := by decide +kernel
theorem dX3_init_30 : decode cX3_init 30 = .ok (.bipush 24, 2) := by decide +kernel
theorem dX3_init_32 : decode cX3_init 32 = .ok (.anewarray 25, 3) := by decide +kernel
theorem dX3_init_35 : decode cX3_init 35 = .ok (.putfield 27, 3) := by decide +kernel
theorem dX3_init_38 : decode cX3_init 38 = .ok (.aload_n 0, 1) := by decide +kernel
theorem dX3_init_39 : decode cX3_init 39 = .ok (.iconst 0, 1) := by decide +kernel
theorem dX3_init_40 : decode cX3_init 40 = .ok (.putfield 31, 3) := by decide +kernel
theorem dX3_init_43 : decode cX3_init 43 = .ok (.aload_n 0, 1) := by decide +kernel
theorem dX3_init_44 : decode cX3_init 44 = .ok (.iconst 0, 1) := by decide +kernel
theorem dX3_init_45 : decode cX3_init 45 = .ok (.putfield 35, 3) := by decide +kernel
theorem dX3_init_48 : decode cX3_init 48 = .ok (.aload_n 0, 1) := by decide +kernel
theorem dX3_init_49 : decode cX3_init 49 = .ok (.iconst 0, 1) := by decide +kernel
theorem dX3_init_50 : decode cX3_init 50 = .ok (.putfield 38, 3) := by decide +kernel
theorem dX3_init_53 : decode cX3_init 53 = .ok (.iconst 0, 1) := by decide +kernel
theorem dX3_init_54 : decode cX3_init 54 = .ok (.istore_n 1, 1) := by decide +kernel
theorem dX3_init_55 : decode cX3_init 55 = .ok (.iload_n 1, 1) := by decide +kernel
theorem dX3_init_56 : decode cX3_init 56 = .ok (.aload_n 0, 1) := by decide +kernel
theorem dX3_init_57 : decode cX3_init 57 = .ok (.getfield 11, 3) := by decide +kernel
theorem dX3_init_60 : decode cX3_init 60 = .ok (.arraylength, 1) := by decide +kernel
theorem dX3_init_61 : decode cX3_init 61 = .ok (.if_icmp .ge 22, 3) := by decide +kernel
theorem dX3_init_64 : decode cX3_init 64 = .ok (.aload_n 0, 1) := by decide +kernel
theorem dX3_init_65 : decode cX3_init 65 = .ok (.getfield 11, 3) := by decide +kernel
theorem dX3_init_68 : decode cX3_init 68 = .ok (.iload_n 1, 1) := by decide +kernel
theorem dX3_init_69 : decode cX3_init 69 = .ok (.new 9, 3) := by decide +kernel
theorem dX3_init_72 : decode cX3_init 72 = .ok (.dup, 1) := by decide +kernel
theorem dX3_init_73 : decode cX3_init 73 = .ok (.invokespecial 41, 3) := by decide +kernel
theorem dX3_init_76 : decode cX3_init 76 = .ok (.aastore, 1) := by decide +kernel
theorem dX3_init_77 : decode cX3_init 77 = .ok (.iinc 1 1, 3) := by decide +kernel
theorem dX3_init_80 : decode cX3_init 80 = .ok (.goto (-25), 3) := by decide +kernel
theorem dX3_init_83 : decode cX3_init 83 = .ok (.return_, 1) := by decide +kernel
theorem dX3_interpreter_0 : decode cX3_interpreter 0 = .ok (.aload_n 0, 1) := by decide +kernel
theorem dX3_interpreter_1 : decode cX3_interpreter 1 = .ok (.iload_n 1, 1) := by decide +kernel
theorem dX3_interpreter_2 : decode cX3_interpreter 2 = .ok (.invokevirtual 42, 3) := by decide +kernel
theorem dX3_interpreter_5 : decode cX3_interpreter 5 = .ok (.astore 4, 2) := by decide +kernel
theorem dX3_interpreter_7 : decode cX3_interpreter 7 = .ok (.aload 4, 2) := by decide +kernel
theorem dX3_interpreter_9 : decode cX3_interpreter 9 = .ok (.ifnonnull 13, 3) := by decide +kernel
theorem dX3_interpreter_12 : decode cX3_interpreter 12 = .ok (.new 46, 3) := by decide +kernel
theorem dX3_interpreter_15 : decode cX3_interpreter 15 = .ok (.dup, 1) := by decide +kernel
theorem dX3_interpreter_16 : decode cX3_interpreter 16 = .ok (.ldc 48, 2) := by decide +kernel
theorem dX3_interpreter_18 : decode cX3_interpreter 18 = .ok (.invokespecial 50, 3) := by decide +kernel
theorem dX3_interpreter_21 : decode cX3_interpreter 21 = .ok (.athrow, 1) := by decide +kernel
theorem dX3_interpreter_22 : decode cX3_interpreter 22 = .ok (.iload_n 2, 1) := by decide +kernel
theorem dX3_interpreter_23 : decode cX3_interpreter 23 = .ok (.ifCond .lt 20, 3) := by decide +kernel
theorem dX3_interpreter_26 : decode cX3_interpreter 26 = .ok (.iload_n 2, 1) := by decide +kernel
theorem dX3_interpreter_27 : decode cX3_interpreter 27 = .ok (.bipush 15, 2) := by decide +kernel
theorem dX3_interpreter_29 : decode cX3_interpreter 29 = .ok (.if_icmp .gt 14, 3) := by decide +kernel
theorem dX3_interpreter_32 : decode cX3_interpreter 32 = .ok (.iload_n 3, 1) := by decide +kernel
theorem dX3_interpreter_33 : decode cX3_interpreter 33 = .ok (.iconst 1, 1) := by decide +kernel
theorem dX3_interpreter_34 : decode cX3_interpreter 34 = .ok (.if_icmp .lt 9, 3) := by decide +kernel
theorem dX3_interpreter_37 : decode cX3_interpreter 37 = .ok (.iload_n 3, 1) := by decide +kernel
theorem dX3_interpreter_38 : decode cX3_interpreter 38 = .ok (.bipush 99, 2) := by decide +kernel
theorem dX3_interpreter_40 : decode cX3_interpreter 40 = .ok (.if_icmp .le 13, 3) := by decide +kernel
theorem dX3_interpreter_43 : decode cX3_interpreter 43 = .ok (.new 53, 3) := by decide +kernel
theorem dX3_interpreter_46 : decode cX3_interpreter 46 = .ok (.dup, 1) := by decide +kernel
theorem dX3_interpreter_47 : decode cX3_interpreter 47 = .ok (.ldc 55, 2) := by decide +kernel
theorem dX3_interpreter_49 : decode cX3_interpreter 49 = .ok (.invokespecial 57, 3) := by decide +kernel
theorem dX3_interpreter_52 : decode cX3_interpreter 52 = .ok (.athrow, 1) := by decide +kernel
theorem dX3_interpreter_53 : decode cX3_interpreter 53 = .ok (.aload 4, 2) := by decide +kernel
theorem dX3_interpreter_55 : decode cX3_interpreter 55 = .ok (.getfield 58, 3) := by decide +kernel
theorem dX3_interpreter_58 : decode cX3_interpreter 58 = .ok (.istore 5, 2) := by decide +kernel
theorem dX3_interpreter_60 : decode cX3_interpreter 60 = .ok (.aload 4, 2) := by decide +kernel
theorem dX3_interpreter_62 : decode cX3_interpreter 62 = .ok (.iload_n 2, 1) := by decide +kernel
theorem dX3_interpreter_63 : decode cX3_interpreter 63 = .ok (.putfield 61, 3) := by decide +kernel
theorem dX3_interpreter_66 : decode cX3_interpreter 66 = .ok (.aload 4, 2) := by decide +kernel
theorem dX3_interpreter_68 : decode cX3_interpreter 68 = .ok (.iload_n 3, 1) := by decide +kernel
theorem dX3_interpreter_69 : decode cX3_interpreter 69 = .ok (.putfield 58, 3) := by decide +kernel
theorem dX3_interpreter_72 : decode cX3_interpreter 72 = .ok (.iload 5, 2) := by decide +kernel
theorem dX3_interpreter_74 : decode cX3_interpreter 74 = .ok (.ireturn, 1) := by decide +kernel
theorem dX3_waive_0 : decode cX3_waive 0 = .ok (.iload_n 1, 1) := by decide +kernel
theorem dX3_waive_1 : decode cX3_waive 1 = .ok (.ifCond .lt 12, 3) := by decide +kernel
theorem dX3_waive_4 : decode cX3_waive 4 = .ok (.iload_n 1, 1) := by decide +kernel
theorem dX3_waive_5 : decode cX3_waive 5 = .ok (.aload_n 0, 1) := by decide +kernel
theorem dX3_waive_6 : decode cX3_waive 6 = .ok (.getfield 15, 3) := by decide +kernel
theorem dX3_waive_9 : decode cX3_waive 9 = .ok (.arraylength, 1) := by decide +kernel
theorem dX3_waive_10 : decode cX3_waive 10 = .ok (.if_icmp .lt 13, 3) := by decide +kernel
theorem dX3_waive_13 : decode cX3_waive 13 = .ok (.new 46, 3) := by decide +kernel
theorem dX3_waive_16 : decode cX3_waive 16 = .ok (.dup, 1) := by decide +kernel
theorem dX3_waive_17 : decode cX3_waive 17 = .ok (.ldc 64, 2) := by decide +kernel
theorem dX3_waive_19 : decode cX3_waive 19 = .ok (.invokespecial 50, 3) := by decide +kernel
theorem dX3_waive_22 : decode cX3_waive 22 = .ok (.athrow, 1) := by decide +kernel
theorem dX3_waive_23 : decode cX3_waive 23 = .ok (.aload_n 0, 1) := by decide +kernel
theorem dX3_waive_24 : decode cX3_waive 24 = .ok (.getfield 15, 3) := by decide +kernel
theorem dX3_waive_27 : decode cX3_waive 27 = .ok (.iload_n 1, 1) := by decide +kernel
theorem dX3_waive_28 : decode cX3_waive 28 = .ok (.baload, 1) := by decide +kernel
theorem dX3_waive_29 : decode cX3_waive 29 = .ok (.istore_n 3, 1) := by decide +kernel
theorem dX3_waive_30 : decode cX3_waive 30 = .ok (.aload_n 0, 1) := by decide +kernel
theorem dX3_waive_31 : decode cX3_waive 31 = .ok (.getfield 15, 3) := by decide +kernel
theorem dX3_waive_34 : decode cX3_waive 34 = .ok (.iload_n 1, 1) := by decide +kernel
theorem dX3_waive_35 : decode cX3_waive 35 = .ok (.iload_n 2, 1) := by decide +kernel
theorem dX3_waive_36 : decode cX3_waive 36 = .ok (.bastore, 1) := by decide +kernel
theorem dX3_waive_37 : decode cX3_waive 37 = .ok (.iload_n 3, 1) := by decide +kernel
theorem dX3_waive_38 : decode cX3_waive 38 = .ok (.ireturn, 1) := by decide +kernel
theorem dX3_file_0 : decode cX3_file 0 = .ok (.iload_n 1, 1) := by decide +kernel
theorem dX3_file_1 : decode cX3_file 1 = .ok (.iconst 4, 1) := by decide +kernel
theorem dX3_file_2 : decode cX3_file 2 = .ok (.invokestatic 66, 3) := by decide +kernel
theorem dX3_file_5 : decode cX3_file 5 = .ok (.ifCond .eq 30, 3) := by decide +kernel
theorem dX3_file_8 : decode cX3_file 8 = .ok (.iload_n 2, 1) := by decide +kernel
theorem dX3_file_9 : decode cX3_file 9 = .ok (.bipush 6, 2) := by decide +kernel
theorem dX3_file_11 : decode cX3_file 11 = .ok (.invokestatic 66, 3) := by decide +kernel
theorem dX3_file_14 : decode cX3_file 14 = .ok (.ifCond .eq 21, 3) := by decide +kernel
theorem dX3_file_17 : decode cX3_file 17 = .ok (.iload_n 3, 1) := by decide +kernel
theorem dX3_file_18 : decode cX3_file 18 = .ok (.bipush 6, 2) := by decide +kernel
theorem dX3_file_20 : decode cX3_file 20 = .ok (.invokestatic 66, 3) := by decide +kernel
theorem dX3_file_23 : decode cX3_file 23 = .ok (.ifCond .eq 12, 3) := by decide +kernel
theorem dX3_file_26 : decode cX3_file 26 = .ok (.iload 4, 2) := by decide +kernel
theorem dX3_file_28 : decode cX3_file 28 = .ok (.iconst 4, 1) := by decide +kernel
theorem dX3_file_29 : decode cX3_file 29 = .ok (.invokestatic 70, 3) := by decide +kernel
theorem dX3_file_32 : decode cX3_file 32 = .ok (.ifCond .ne 13, 3) := by decide +kernel
theorem dX3_file_35 : decode cX3_file 35 = .ok (.new 46, 3) := by decide +kernel
theorem dX3_file_38 : decode cX3_file 38 = .ok (.dup, 1) := by decide +kernel
theorem dX3_file_39 : decode cX3_file 39 = .ok (.ldc 73, 2) := by decide +kernel
theorem dX3_file_41 : decode cX3_file 41 = .ok (.invokespecial 50, 3) := by decide +kernel
theorem dX3_file_44 : decode cX3_file 44 = .ok (.athrow, 1) := by decide +kernel
theorem dX3_file_45 : decode cX3_file 45 = .ok (.iload_n 2, 1) := by decide +kernel
theorem dX3_file_46 : decode cX3_file 46 = .ok (.iload_n 3, 1) := by decide +kernel
theorem dX3_file_47 : decode cX3_file 47 = .ok (.if_icmp .ne 13, 3) := by decide +kernel
theorem dX3_file_50 : decode cX3_file 50 = .ok (.new 53, 3) := by decide +kernel
theorem dX3_file_53 : decode cX3_file 53 = .ok (.dup, 1) := by decide +kernel
theorem dX3_file_54 : decode cX3_file 54 = .ok (.ldc 75, 2) := by decide +kernel
theorem dX3_file_56 : decode cX3_file 56 = .ok (.invokespecial 57, 3) := by decide +kernel
theorem dX3_file_59 : decode cX3_file 59 = .ok (.athrow, 1) := by decide +kernel
theorem dX3_file_60 : decode cX3_file 60 = .ok (.aload_n 0, 1) := by decide +kernel
theorem dX3_file_61 : decode cX3_file 61 = .ok (.getfield 31, 3) := by decide +kernel
theorem dX3_file_64 : decode cX3_file 64 = .ok (.aload_n 0, 1) := by decide +kernel
theorem dX3_file_65 : decode cX3_file 65 = .ok (.getfield 21, 3) := by decide +kernel
theorem dX3_file_68 : decode cX3_file 68 = .ok (.arraylength, 1) := by decide +kernel
theorem dX3_file_69 : decode cX3_file 69 = .ok (.invokestatic 66, 3) := by decide +kernel
theorem dX3_file_72 : decode cX3_file 72 = .ok (.ifCond .ne 13, 3) := by decide +kernel
theorem dX3_file_75 : decode cX3_file 75 = .ok (.new 77, 3) := by decide +kernel
theorem dX3_file_78 : decode cX3_file 78 = .ok (.dup, 1) := by decide +kernel
theorem dX3_file_79 : decode cX3_file 79 = .ok (.ldc 79, 2) := by decide +kernel
theorem dX3_file_81 : decode cX3_file 81 = .ok (.invokespecial 81, 3) := by decide +kernel
theorem dX3_file_84 : decode cX3_file 84 = .ok (.athrow, 1) := by decide +kernel
theorem dX3_file_85 : decode cX3_file 85 = .ok (.new 19, 3) := by decide +kernel
theorem dX3_file_88 : decode cX3_file 88 = .ok (.dup, 1) := by decide +kernel
theorem dX3_file_89 : decode cX3_file 89 = .ok (.aload_n 0, 1) := by decide +kernel
theorem dX3_file_90 : decode cX3_file 90 = .ok (.getfield 31, 3) := by decide +kernel
theorem dX3_file_93 : decode cX3_file 93 = .ok (.iload_n 1, 1) := by decide +kernel
theorem dX3_file_94 : decode cX3_file 94 = .ok (.iload_n 2, 1) := by decide +kernel
theorem dX3_file_95 : decode cX3_file 95 = .ok (.iload_n 3, 1) := by decide +kernel
theorem dX3_file_96 : decode cX3_file 96 = .ok (.iload 4, 2) := by decide +kernel
theorem dX3_file_98 : decode cX3_file 98 = .ok (.aload_n 0, 1) := by decide +kernel
theorem dX3_file_99 : decode cX3_file 99 = .ok (.getfield 38, 3) := by decide +kernel
theorem dX3_file_102 : decode cX3_file 102 = .ok (.bipush 100, 2) := by decide +kernel
theorem dX3_file_104 : decode cX3_file 104 = .ok (.iadd, 1) := by decide +kernel
theorem dX3_file_105 : decode cX3_file 105 = .ok (.invokespecial 82, 3) := by decide +kernel
theorem dX3_file_108 : decode cX3_file 108 = .ok (.astore 5, 2) := by decide +kernel
theorem dX3_file_110 : decode cX3_file 110 = .ok (.aload 5, 2) := by decide +kernel
theorem dX3_file_112 : decode cX3_file 112 = .ok (.dup, 1) := by decide +kernel
theorem dX3_file_113 : decode cX3_file 113 = .ok (.getfield 85, 3) := by decide +kernel
theorem dX3_file_116 : decode cX3_file 116 = .ok (.aload_n 0, 1) := by decide +kernel
theorem dX3_file_117 : decode cX3_file 117 = .ok (.aload 5, 2) := by decide +kernel
theorem dX3_file_119 : decode cX3_file 119 = .ok (.bipush 50, 2) := by decide +kernel
theorem dX3_file_121 : decode cX3_file 121 = .ok (.invokevirtual 88, 3) := by decide +kernel
theorem dX3_file_124 : decode cX3_file 124 = .ok (.isub, 1) := by decide +kernel
theorem dX3_file_125 : decode cX3_file 125 = .ok (.putfield 85, 3) := by decide +kernel
theorem dX3_file_128 : decode cX3_file 128 = .ok (.aload_n 0, 1) := by decide +kernel
theorem dX3_file_129 : decode cX3_file 129 = .ok (.getfield 21, 3) := by decide +kernel
theorem dX3_file_132 : decode cX3_file 132 = .ok (.aload_n 0, 1) := by decide +kernel
theorem dX3_file_133 : decode cX3_file 133 = .ok (.getfield 31, 3) := by decide +kernel
theorem dX3_file_136 : decode cX3_file 136 = .ok (.aload 5, 2) := by decide +kernel
theorem dX3_file_138 : decode cX3_file 138 = .ok (.aastore, 1) := by decide +kernel
theorem dX3_file_139 : decode cX3_file 139 = .ok (.aload_n 0, 1) := by decide +kernel
theorem dX3_file_140 : decode cX3_file 140 = .ok (.dup, 1) := by decide +kernel
theorem dX3_file_141 : decode cX3_file 141 = .ok (.getfield 31, 3) := by decide +kernel
theorem dX3_file_144 : decode cX3_file 144 = .ok (.iconst 1, 1) := by decide +kernel
theorem dX3_file_145 : decode cX3_file 145 = .ok (.iadd, 1) := by decide +kernel
theorem dX3_file_146 : decode cX3_file 146 = .ok (.putfield 31, 3) := by decide +kernel
theorem dX3_file_149 : decode cX3_file 149 = .ok (.aload 5, 2) := by decide +kernel
theorem dX3_file_151 : decode cX3_file 151 = .ok (.getfield 92, 3) := by decide +kernel
theorem dX3_file_154 : decode cX3_file 154 = .ok (.ireturn, 1) := by decide +kernel
theorem dX3_pay_0 : decode cX3_pay 0 = .ok (.aload_n 0, 1) := by decide +kernel
theorem dX3_pay_1 : decode cX3_pay 1 = .ok (.iload_n 1, 1) := by decide +kernel
theorem dX3_pay_2 : decode cX3_pay 2 = .ok (.invokevirtual 95, 3) := by decide +kernel
theorem dX3_pay_5 : decode cX3_pay 5 = .ok (.astore_n 3, 1) := by decide +kernel
theorem dX3_pay_6 : decode cX3_pay 6 = .ok (.aload_n 3, 1) := by decide +kernel
theorem dX3_pay_7 : decode cX3_pay 7 = .ok (.ifnonnull 13, 3) := by decide +kernel
theorem dX3_pay_10 : decode cX3_pay 10 = .ok (.new 46, 3) := by decide +kernel
theorem dX3_pay_13 : decode cX3_pay 13 = .ok (.dup, 1) := by decide +kernel
theorem dX3_pay_14 : decode cX3_pay 14 = .ok (.ldc 99, 2) := by decide +kernel
theorem dX3_pay_16 : decode cX3_pay 16 = .ok (.invokespecial 50, 3) := by decide +kernel
theorem dX3_pay_19 : decode cX3_pay 19 = .ok (.athrow, 1) := by decide +kernel
theorem dX3_pay_20 : decode cX3_pay 20 = .ok (.iload_n 2, 1) := by decide +kernel
theorem dX3_pay_21 : decode cX3_pay 21 = .ok (.iconst 1, 1) := by decide +kernel
theorem dX3_pay_22 : decode cX3_pay 22 = .ok (.if_icmp .lt 10, 3) := by decide +kernel
theorem dX3_pay_25 : decode cX3_pay 25 = .ok (.iload_n 2, 1) := by decide +kernel
theorem dX3_pay_26 : decode cX3_pay 26 = .ok (.sipush 9999, 3) := by decide +kernel
theorem dX3_pay_29 : decode cX3_pay 29 = .ok (.if_icmp .le 13, 3) := by decide +kernel
theorem dX3_pay_32 : decode cX3_pay 32 = .ok (.new 53, 3) := by decide +kernel
theorem dX3_pay_35 : decode cX3_pay 35 = .ok (.dup, 1) := by decide +kernel
theorem dX3_pay_36 : decode cX3_pay 36 = .ok (.ldc 101, 2) := by decide +kernel
theorem dX3_pay_38 : decode cX3_pay 38 = .ok (.invokespecial 57, 3) := by decide +kernel
theorem dX3_pay_41 : decode cX3_pay 41 = .ok (.athrow, 1) := by decide +kernel
theorem dX3_pay_42 : decode cX3_pay 42 = .ok (.aload_n 3, 1) := by decide +kernel
theorem dX3_pay_43 : decode cX3_pay 43 = .ok (.dup, 1) := by decide +kernel
theorem dX3_pay_44 : decode cX3_pay 44 = .ok (.getfield 85, 3) := by decide +kernel
theorem dX3_pay_47 : decode cX3_pay 47 = .ok (.iload_n 2, 1) := by decide +kernel
theorem dX3_pay_48 : decode cX3_pay 48 = .ok (.iadd, 1) := by decide +kernel
theorem dX3_pay_49 : decode cX3_pay 49 = .ok (.putfield 85, 3) := by decide +kernel
theorem dX3_pay_52 : decode cX3_pay 52 = .ok (.aload_n 3, 1) := by decide +kernel
theorem dX3_pay_53 : decode cX3_pay 53 = .ok (.getfield 85, 3) := by decide +kernel
theorem dX3_pay_56 : decode cX3_pay 56 = .ok (.ireturn, 1) := by decide +kernel
theorem dX3_decide_0 : decode cX3_decide 0 = .ok (.aload_n 0, 1) := by decide +kernel
theorem dX3_decide_1 : decode cX3_decide 1 = .ok (.iload_n 1, 1) := by decide +kernel
theorem dX3_decide_2 : decode cX3_decide 2 = .ok (.invokevirtual 95, 3) := by decide +kernel
theorem dX3_decide_5 : decode cX3_decide 5 = .ok (.astore_n 2, 1) := by decide +kernel
theorem dX3_decide_6 : decode cX3_decide 6 = .ok (.aload_n 2, 1) := by decide +kernel
theorem dX3_decide_7 : decode cX3_decide 7 = .ok (.ifnonnull 13, 3) := by decide +kernel
theorem dX3_decide_10 : decode cX3_decide 10 = .ok (.new 46, 3) := by decide +kernel
theorem dX3_decide_13 : decode cX3_decide 13 = .ok (.dup, 1) := by decide +kernel
theorem dX3_decide_14 : decode cX3_decide 14 = .ok (.ldc 99, 2) := by decide +kernel
theorem dX3_decide_16 : decode cX3_decide 16 = .ok (.invokespecial 50, 3) := by decide +kernel
theorem dX3_decide_19 : decode cX3_decide 19 = .ok (.athrow, 1) := by decide +kernel
theorem dX3_decide_20 : decode cX3_decide 20 = .ok (.aload_n 2, 1) := by decide +kernel
theorem dX3_decide_21 : decode cX3_decide 21 = .ok (.getfield 103, 3) := by decide +kernel
theorem dX3_decide_24 : decode cX3_decide 24 = .ok (.iconst 1, 1) := by decide +kernel
theorem dX3_decide_25 : decode cX3_decide 25 = .ok (.if_icmp .eq 13, 3) := by decide +kernel
theorem dX3_decide_28 : decode cX3_decide 28 = .ok (.new 77, 3) := by decide +kernel
theorem dX3_decide_31 : decode cX3_decide 31 = .ok (.dup, 1) := by decide +kernel
theorem dX3_decide_32 : decode cX3_decide 32 = .ok (.ldc 106, 2) := by decide +kernel
theorem dX3_decide_34 : decode cX3_decide 34 = .ok (.invokespecial 81, 3) := by decide +kernel
theorem dX3_decide_37 : decode cX3_decide 37 = .ok (.athrow, 1) := by decide +kernel
theorem dX3_decide_38 : decode cX3_decide 38 = .ok (.aload_n 2, 1) := by decide +kernel
theorem dX3_decide_39 : decode cX3_decide 39 = .ok (.iconst 2, 1) := by decide +kernel
theorem dX3_decide_40 : decode cX3_decide 40 = .ok (.putfield 103, 3) := by decide +kernel
theorem dX3_decide_43 : decode cX3_decide 43 = .ok (.aload_n 0, 1) := by decide +kernel
theorem dX3_decide_44 : decode cX3_decide 44 = .ok (.aload_n 2, 1) := by decide +kernel
theorem dX3_decide_45 : decode cX3_decide 45 = .ok (.invokevirtual 108, 3) := by decide +kernel
theorem dX3_decide_48 : decode cX3_decide 48 = .ok (.ireturn, 1) := by decide +kernel
theorem dX3_appeal_0 : decode cX3_appeal 0 = .ok (.aload_n 0, 1) := by decide +kernel
theorem dX3_appeal_1 : decode cX3_appeal 1 = .ok (.iload_n 1, 1) := by decide +kernel
theorem dX3_appeal_2 : decode cX3_appeal 2 = .ok (.invokevirtual 95, 3) := by decide +kernel
theorem dX3_appeal_5 : decode cX3_appeal 5 = .ok (.astore_n 2, 1) := by decide +kernel
theorem dX3_appeal_6 : decode cX3_appeal 6 = .ok (.aload_n 2, 1) := by decide +kernel
theorem dX3_appeal_7 : decode cX3_appeal 7 = .ok (.ifnonnull 13, 3) := by decide +kernel
theorem dX3_appeal_10 : decode cX3_appeal 10 = .ok (.new 46, 3) := by decide +kernel
theorem dX3_appeal_13 : decode cX3_appeal 13 = .ok (.dup, 1) := by decide +kernel
theorem dX3_appeal_14 : decode cX3_appeal 14 = .ok (.ldc 99, 2) := by decide +kernel
theorem dX3_appeal_16 : decode cX3_appeal 16 = .ok (.invokespecial 50, 3) := by decide +kernel
theorem dX3_appeal_19 : decode cX3_appeal 19 = .ok (.athrow, 1) := by decide +kernel
theorem dX3_appeal_20 : decode cX3_appeal 20 = .ok (.aload_n 2, 1) := by decide +kernel
theorem dX3_appeal_21 : decode cX3_appeal 21 = .ok (.getfield 103, 3) := by decide +kernel
theorem dX3_appeal_24 : decode cX3_appeal 24 = .ok (.iconst 2, 1) := by decide +kernel
theorem dX3_appeal_25 : decode cX3_appeal 25 = .ok (.if_icmp .ne 10, 3) := by decide +kernel
theorem dX3_appeal_28 : decode cX3_appeal 28 = .ok (.aload_n 2, 1) := by decide +kernel
theorem dX3_appeal_29 : decode cX3_appeal 29 = .ok (.getfield 85, 3) := by decide +kernel
theorem dX3_appeal_32 : decode cX3_appeal 32 = .ok (.ifCond .ge 13, 3) := by decide +kernel
theorem dX3_appeal_35 : decode cX3_appeal 35 = .ok (.new 77, 3) := by decide +kernel
theorem dX3_appeal_38 : decode cX3_appeal 38 = .ok (.dup, 1) := by decide +kernel
theorem dX3_appeal_39 : decode cX3_appeal 39 = .ok (.ldc 112, 2) := by decide +kernel
theorem dX3_appeal_41 : decode cX3_appeal 41 = .ok (.invokespecial 81, 3) := by decide +kernel
theorem dX3_appeal_44 : decode cX3_appeal 44 = .ok (.athrow, 1) := by decide +kernel
theorem dX3_appeal_45 : decode cX3_appeal 45 = .ok (.aload_n 2, 1) := by decide +kernel
theorem dX3_appeal_46 : decode cX3_appeal 46 = .ok (.iconst 3, 1) := by decide +kernel
theorem dX3_appeal_47 : decode cX3_appeal 47 = .ok (.putfield 103, 3) := by decide +kernel
theorem dX3_appeal_50 : decode cX3_appeal 50 = .ok (.aload_n 2, 1) := by decide +kernel
theorem dX3_appeal_51 : decode cX3_appeal 51 = .ok (.dup, 1) := by decide +kernel
theorem dX3_appeal_52 : decode cX3_appeal 52 = .ok (.getfield 85, 3) := by decide +kernel
theorem dX3_appeal_55 : decode cX3_appeal 55 = .ok (.aload_n 0, 1) := by decide +kernel
theorem dX3_appeal_56 : decode cX3_appeal 56 = .ok (.aload_n 2, 1) := by decide +kernel
theorem dX3_appeal_57 : decode cX3_appeal 57 = .ok (.bipush 80, 2) := by decide +kernel
theorem dX3_appeal_59 : decode cX3_appeal 59 = .ok (.invokevirtual 88, 3) := by decide +kernel
theorem dX3_appeal_62 : decode cX3_appeal 62 = .ok (.isub, 1) := by decide +kernel
theorem dX3_appeal_63 : decode cX3_appeal 63 = .ok (.putfield 85, 3) := by decide +kernel
theorem dX3_appeal_66 : decode cX3_appeal 66 = .ok (.aload_n 2, 1) := by decide +kernel
theorem dX3_appeal_67 : decode cX3_appeal 67 = .ok (.getfield 85, 3) := by decide +kernel
theorem dX3_appeal_70 : decode cX3_appeal 70 = .ok (.ireturn, 1) := by decide +kernel
theorem dX3_settle_0 : decode cX3_settle 0 = .ok (.aload_n 0, 1) := by decide +kernel
theorem dX3_settle_1 : decode cX3_settle 1 = .ok (.iload_n 1, 1) := by decide +kernel
theorem dX3_settle_2 : decode cX3_settle 2 = .ok (.invokevirtual 95, 3) := by decide +kernel
theorem dX3_settle_5 : decode cX3_settle 5 = .ok (.astore_n 3, 1) := by decide +kernel
theorem dX3_settle_6 : decode cX3_settle 6 = .ok (.aload_n 3, 1) := by decide +kernel
theorem dX3_settle_7 : decode cX3_settle 7 = .ok (.ifnonnull 13, 3) := by decide +kernel
theorem dX3_settle_10 : decode cX3_settle 10 = .ok (.new 46, 3) := by decide +kernel
theorem dX3_settle_13 : decode cX3_settle 13 = .ok (.dup, 1) := by decide +kernel
theorem dX3_settle_14 : decode cX3_settle 14 = .ok (.ldc 99, 2) := by decide +kernel
theorem dX3_settle_16 : decode cX3_settle 16 = .ok (.invokespecial 50, 3) := by decide +kernel
theorem dX3_settle_19 : decode cX3_settle 19 = .ok (.athrow, 1) := by decide +kernel
theorem dX3_settle_20 : decode cX3_settle 20 = .ok (.aload_n 3, 1) := by decide +kernel
theorem dX3_settle_21 : decode cX3_settle 21 = .ok (.getfield 103, 3) := by decide +kernel
theorem dX3_settle_24 : decode cX3_settle 24 = .ok (.iconst 3, 1) := by decide +kernel
theorem dX3_settle_25 : decode cX3_settle 25 = .ok (.if_icmp .eq 13, 3) := by decide +kernel
theorem dX3_settle_28 : decode cX3_settle 28 = .ok (.new 77, 3) := by decide +kernel
theorem dX3_settle_31 : decode cX3_settle 31 = .ok (.dup, 1) := by decide +kernel
theorem dX3_settle_32 : decode cX3_settle 32 = .ok (.ldc 114, 2) := by decide +kernel
theorem dX3_settle_34 : decode cX3_settle 34 = .ok (.invokespecial 81, 3) := by decide +kernel
theorem dX3_settle_37 : decode cX3_settle 37 = .ok (.athrow, 1) := by decide +kernel
theorem dX3_settle_38 : decode cX3_settle 38 = .ok (.aload_n 3, 1) := by decide +kernel
theorem dX3_settle_39 : decode cX3_settle 39 = .ok (.iload_n 2, 1) := by decide +kernel
theorem dX3_settle_40 : decode cX3_settle 40 = .ok (.ifCond .eq 7, 3) := by decide +kernel
theorem dX3_settle_43 : decode cX3_settle 43 = .ok (.iconst 0, 1) := by decide +kernel
theorem dX3_settle_44 : decode cX3_settle 44 = .ok (.goto 4, 3) := by decide +kernel
theorem dX3_settle_47 : decode cX3_settle 47 = .ok (.iconst 2, 1) := by decide +kernel
theorem dX3_settle_48 : decode cX3_settle 48 = .ok (.putfield 103, 3) := by decide +kernel
theorem dX3_settle_51 : decode cX3_settle 51 = .ok (.aload_n 3, 1) := by decide +kernel
theorem dX3_settle_52 : decode cX3_settle 52 = .ok (.getfield 116, 3) := by decide +kernel
theorem dX3_settle_55 : decode cX3_settle 55 = .ok (.ireturn, 1) := by decide +kernel
theorem dX3_close_0 : decode cX3_close 0 = .ok (.aload_n 0, 1) := by decide +kernel
theorem dX3_close_1 : decode cX3_close 1 = .ok (.iload_n 1, 1) := by decide +kernel
theorem dX3_close_2 : decode cX3_close 2 = .ok (.invokevirtual 95, 3) := by decide +kernel
theorem dX3_close_5 : decode cX3_close 5 = .ok (.astore_n 2, 1) := by decide +kernel
theorem dX3_close_6 : decode cX3_close 6 = .ok (.aload_n 2, 1) := by decide +kernel
theorem dX3_close_7 : decode cX3_close 7 = .ok (.ifnonnull 13, 3) := by decide +kernel
theorem dX3_close_10 : decode cX3_close 10 = .ok (.new 46, 3) := by decide +kernel
theorem dX3_close_13 : decode cX3_close 13 = .ok (.dup, 1) := by decide +kernel
theorem dX3_close_14 : decode cX3_close 14 = .ok (.ldc 99, 2) := by decide +kernel
theorem dX3_close_16 : decode cX3_close 16 = .ok (.invokespecial 50, 3) := by decide +kernel
theorem dX3_close_19 : decode cX3_close 19 = .ok (.athrow, 1) := by decide +kernel
theorem dX3_close_20 : decode cX3_close 20 = .ok (.aload_n 2, 1) := by decide +kernel
theorem dX3_close_21 : decode cX3_close 21 = .ok (.getfield 103, 3) := by decide +kernel
theorem dX3_close_24 : decode cX3_close 24 = .ok (.iconst 2, 1) := by decide +kernel
theorem dX3_close_25 : decode cX3_close 25 = .ok (.if_icmp .eq 13, 3) := by decide +kernel
theorem dX3_close_28 : decode cX3_close 28 = .ok (.new 77, 3) := by decide +kernel
theorem dX3_close_31 : decode cX3_close 31 = .ok (.dup, 1) := by decide +kernel
theorem dX3_close_32 : decode cX3_close 32 = .ok (.ldc 119, 2) := by decide +kernel
theorem dX3_close_34 : decode cX3_close 34 = .ok (.invokespecial 81, 3) := by decide +kernel
theorem dX3_close_37 : decode cX3_close 37 = .ok (.athrow, 1) := by decide +kernel
theorem dX3_close_38 : decode cX3_close 38 = .ok (.aload_n 2, 1) := by decide +kernel
theorem dX3_close_39 : decode cX3_close 39 = .ok (.iconst 4, 1) := by decide +kernel
theorem dX3_close_40 : decode cX3_close 40 = .ok (.putfield 103, 3) := by decide +kernel
theorem dX3_close_43 : decode cX3_close 43 = .ok (.aload_n 2, 1) := by decide +kernel
theorem dX3_close_44 : decode cX3_close 44 = .ok (.getfield 85, 3) := by decide +kernel
theorem dX3_close_47 : decode cX3_close 47 = .ok (.ireturn, 1) := by decide +kernel
theorem dX3_plan_0 : decode cX3_plan 0 = .ok (.aload_n 0, 1) := by decide +kernel
theorem dX3_plan_1 : decode cX3_plan 1 = .ok (.iload_n 1, 1) := by decide +kernel
theorem dX3_plan_2 : decode cX3_plan 2 = .ok (.invokevirtual 95, 3) := by decide +kernel
theorem dX3_plan_5 : decode cX3_plan 5 = .ok (.astore 6, 2) := by decide +kernel
theorem dX3_plan_7 : decode cX3_plan 7 = .ok (.aload 6, 2) := by decide +kernel
theorem dX3_plan_9 : decode cX3_plan 9 = .ok (.ifnull 19, 3) := by decide +kernel
theorem dX3_plan_12 : decode cX3_plan 12 = .ok (.iload_n 2, 1) := by decide +kernel
theorem dX3_plan_13 : decode cX3_plan 13 = .ok (.iconst 4, 1) := by decide +kernel
theorem dX3_plan_14 : decode cX3_plan 14 = .ok (.invokestatic 66, 3) := by decide +kernel
theorem dX3_plan_17 : decode cX3_plan 17 = .ok (.ifCond .eq 11, 3) := by decide +kernel
theorem dX3_plan_20 : decode cX3_plan 20 = .ok (.iload_n 3, 1) := by decide +kernel
theorem dX3_plan_21 : decode cX3_plan 21 = .ok (.iconst 4, 1) := by decide +kernel
theorem dX3_plan_22 : decode cX3_plan 22 = .ok (.invokestatic 70, 3) := by decide +kernel
theorem dX3_plan_25 : decode cX3_plan 25 = .ok (.ifCond .ne 13, 3) := by decide +kernel
theorem dX3_plan_28 : decode cX3_plan 28 = .ok (.new 46, 3) := by decide +kernel
theorem dX3_plan_31 : decode cX3_plan 31 = .ok (.dup, 1) := by decide +kernel
theorem dX3_plan_32 : decode cX3_plan 32 = .ok (.ldc 121, 2) := by decide +kernel
theorem dX3_plan_34 : decode cX3_plan 34 = .ok (.invokespecial 50, 3) := by decide +kernel
theorem dX3_plan_37 : decode cX3_plan 37 = .ok (.athrow, 1) := by decide +kernel
theorem dX3_plan_38 : decode cX3_plan 38 = .ok (.iload 4, 2) := by decide +kernel
theorem dX3_plan_40 : decode cX3_plan 40 = .ok (.aload_n 0, 1) := by decide +kernel
theorem dX3_plan_41 : decode cX3_plan 41 = .ok (.getfield 38, 3) := by decide +kernel
theorem dX3_plan_44 : decode cX3_plan 44 = .ok (.if_icmp .le 23, 3) := by decide +kernel
theorem dX3_plan_47 : decode cX3_plan 47 = .ok (.iload 4, 2) := by decide +kernel
theorem dX3_plan_49 : decode cX3_plan 49 = .ok (.sipush 999, 3) := by decide +kernel
theorem dX3_plan_52 : decode cX3_plan 52 = .ok (.if_icmp .gt 15, 3) := by decide +kernel
theorem dX3_plan_55 : decode cX3_plan 55 = .ok (.iload 5, 2) := by decide +kernel
theorem dX3_plan_57 : decode cX3_plan 57 = .ok (.iconst 1, 1) := by decide +kernel
theorem dX3_plan_58 : decode cX3_plan 58 = .ok (.if_icmp .lt 9, 3) := by decide +kernel
theorem dX3_plan_61 : decode cX3_plan 61 = .ok (.iload 5, 2) := by decide +kernel
theorem dX3_plan_63 : decode cX3_plan 63 = .ok (.iconst 4, 1) := by decide +kernel
theorem dX3_plan_64 : decode cX3_plan 64 = .ok (.if_icmp .le 13, 3) := by decide +kernel
theorem dX3_plan_67 : decode cX3_plan 67 = .ok (.new 53, 3) := by decide +kernel
theorem dX3_plan_70 : decode cX3_plan 70 = .ok (.dup, 1) := by decide +kernel
theorem dX3_plan_71 : decode cX3_plan 71 = .ok (.ldc 123, 2) := by decide +kernel
theorem dX3_plan_73 : decode cX3_plan 73 = .ok (.invokespecial 57, 3) := by decide +kernel
theorem dX3_plan_76 : decode cX3_plan 76 = .ok (.athrow, 1) := by decide +kernel
theorem dX3_plan_77 : decode cX3_plan 77 = .ok (.aload 6, 2) := by decide +kernel
theorem dX3_plan_79 : decode cX3_plan 79 = .ok (.invokevirtual 125, 3) := by decide +kernel
theorem dX3_plan_82 : decode cX3_plan 82 = .ok (.ifCond .eq 28, 3) := by decide +kernel
theorem dX3_plan_85 : decode cX3_plan 85 = .ok (.aload_n 0, 1) := by decide +kernel
theorem dX3_plan_86 : decode cX3_plan 86 = .ok (.aload 6, 2) := by decide +kernel
theorem dX3_plan_88 : decode cX3_plan 88 = .ok (.iload_n 3, 1) := by decide +kernel
theorem dX3_plan_89 : decode cX3_plan 89 = .ok (.invokevirtual 129, 3) := by decide +kernel
theorem dX3_plan_92 : decode cX3_plan 92 = .ok (.ifCond .eq 18, 3) := by decide +kernel
theorem dX3_plan_95 : decode cX3_plan 95 = .ok (.aload_n 0, 1) := by decide +kernel
theorem dX3_plan_96 : decode cX3_plan 96 = .ok (.getfield 35, 3) := by decide +kernel
theorem dX3_plan_99 : decode cX3_plan 99 = .ok (.aload_n 0, 1) := by decide +kernel
theorem dX3_plan_100 : decode cX3_plan 100 = .ok (.getfield 27, 3) := by decide +kernel
theorem dX3_plan_103 : decode cX3_plan 103 = .ok (.arraylength, 1) := by decide +kernel
theorem dX3_plan_104 : decode cX3_plan 104 = .ok (.invokestatic 66, 3) := by decide +kernel
theorem dX3_plan_107 : decode cX3_plan 107 = .ok (.ifCond .ne 13, 3) := by decide +kernel
theorem dX3_plan_110 : decode cX3_plan 110 = .ok (.new 77, 3) := by decide +kernel
theorem dX3_plan_113 : decode cX3_plan 113 = .ok (.dup, 1) := by decide +kernel
theorem dX3_plan_114 : decode cX3_plan 114 = .ok (.ldc 133, 2) := by decide +kernel
theorem dX3_plan_116 : decode cX3_plan 116 = .ok (.invokespecial 81, 3) := by decide +kernel
theorem dX3_plan_119 : decode cX3_plan 119 = .ok (.athrow, 1) := by decide +kernel
theorem dX3_plan_120 : decode cX3_plan 120 = .ok (.aload_n 0, 1) := by decide +kernel
theorem dX3_plan_121 : decode cX3_plan 121 = .ok (.aconst_null, 1) := by decide +kernel
theorem dX3_plan_122 : decode cX3_plan 122 = .ok (.aload 6, 2) := by decide +kernel
theorem dX3_plan_124 : decode cX3_plan 124 = .ok (.iload_n 2, 1) := by decide +kernel
theorem dX3_plan_125 : decode cX3_plan 125 = .ok (.iload_n 3, 1) := by decide +kernel
theorem dX3_plan_126 : decode cX3_plan 126 = .ok (.iload 4, 2) := by decide +kernel
theorem dX3_plan_128 : decode cX3_plan 128 = .ok (.iload 5, 2) := by decide +kernel
theorem dX3_plan_130 : decode cX3_plan 130 = .ok (.invokevirtual 135, 3) := by decide +kernel
theorem dX3_plan_133 : decode cX3_plan 133 = .ok (.ifCond .eq 13, 3) := by decide +kernel
theorem dX3_plan_136 : decode cX3_plan 136 = .ok (.new 77, 3) := by decide +kernel
theorem dX3_plan_139 : decode cX3_plan 139 = .ok (.dup, 1) := by decide +kernel
theorem dX3_plan_140 : decode cX3_plan 140 = .ok (.ldc 139, 2) := by decide +kernel
theorem dX3_plan_142 : decode cX3_plan 142 = .ok (.invokespecial 81, 3) := by decide +kernel
theorem dX3_plan_145 : decode cX3_plan 145 = .ok (.athrow, 1) := by decide +kernel
theorem dX3_plan_146 : decode cX3_plan 146 = .ok (.new 25, 3) := by decide +kernel
theorem dX3_plan_149 : decode cX3_plan 149 = .ok (.dup, 1) := by decide +kernel
theorem dX3_plan_150 : decode cX3_plan 150 = .ok (.aload_n 0, 1) := by decide +kernel
theorem dX3_plan_151 : decode cX3_plan 151 = .ok (.getfield 35, 3) := by decide +kernel
theorem dX3_plan_154 : decode cX3_plan 154 = .ok (.aload 6, 2) := by decide +kernel
theorem dX3_plan_156 : decode cX3_plan 156 = .ok (.iload 5, 2) := by decide +kernel
theorem dX3_plan_158 : decode cX3_plan 158 = .ok (.invokespecial 141, 3) := by decide +kernel
theorem dX3_plan_161 : decode cX3_plan 161 = .ok (.astore 7, 2) := by decide +kernel
theorem dX3_plan_163 : decode cX3_plan 163 = .ok (.aload_n 0, 1) := by decide +kernel
theorem dX3_plan_164 : decode cX3_plan 164 = .ok (.getfield 27, 3) := by decide +kernel
theorem dX3_plan_167 : decode cX3_plan 167 = .ok (.aload_n 0, 1) := by decide +kernel
theorem dX3_plan_168 : decode cX3_plan 168 = .ok (.getfield 35, 3) := by decide +kernel
theorem dX3_plan_171 : decode cX3_plan 171 = .ok (.aload 7, 2) := by decide +kernel
theorem dX3_plan_173 : decode cX3_plan 173 = .ok (.aastore, 1) := by decide +kernel
theorem dX3_plan_174 : decode cX3_plan 174 = .ok (.aload_n 0, 1) := by decide +kernel
theorem dX3_plan_175 : decode cX3_plan 175 = .ok (.dup, 1) := by decide +kernel
theorem dX3_plan_176 : decode cX3_plan 176 = .ok (.getfield 35, 3) := by decide +kernel
theorem dX3_plan_179 : decode cX3_plan 179 = .ok (.iconst 1, 1) := by decide +kernel
theorem dX3_plan_180 : decode cX3_plan 180 = .ok (.iadd, 1) := by decide +kernel
theorem dX3_plan_181 : decode cX3_plan 181 = .ok (.putfield 35, 3) := by decide +kernel
theorem dX3_plan_184 : decode cX3_plan 184 = .ok (.aload_n 0, 1) := by decide +kernel
theorem dX3_plan_185 : decode cX3_plan 185 = .ok (.aload 7, 2) := by decide +kernel
theorem dX3_plan_187 : decode cX3_plan 187 = .ok (.iload_n 2, 1) := by decide +kernel
theorem dX3_plan_188 : decode cX3_plan 188 = .ok (.iload_n 3, 1) := by decide +kernel
theorem dX3_plan_189 : decode cX3_plan 189 = .ok (.iload 4, 2) := by decide +kernel
theorem dX3_plan_191 : decode cX3_plan 191 = .ok (.invokevirtual 144, 3) := by decide +kernel
theorem dX3_plan_194 : decode cX3_plan 194 = .ok (.aload 7, 2) := by decide +kernel
theorem dX3_plan_196 : decode cX3_plan 196 = .ok (.getfield 148, 3) := by decide +kernel
theorem dX3_plan_199 : decode cX3_plan 199 = .ok (.ireturn, 1) := by decide +kernel
theorem dX3_move_0 : decode cX3_move 0 = .ok (.aload_n 0, 1) := by decide +kernel
theorem dX3_move_1 : decode cX3_move 1 = .ok (.iload_n 1, 1) := by decide +kernel
theorem dX3_move_2 : decode cX3_move 2 = .ok (.invokevirtual 149, 3) := by decide +kernel
theorem dX3_move_5 : decode cX3_move 5 = .ok (.astore 5, 2) := by decide +kernel
theorem dX3_move_7 : decode cX3_move 7 = .ok (.aload 5, 2) := by decide +kernel
theorem dX3_move_9 : decode cX3_move 9 = .ok (.ifnull 19, 3) := by decide +kernel
theorem dX3_move_12 : decode cX3_move 12 = .ok (.iload_n 2, 1) := by decide +kernel
theorem dX3_move_13 : decode cX3_move 13 = .ok (.iconst 4, 1) := by decide +kernel
theorem dX3_move_14 : decode cX3_move 14 = .ok (.invokestatic 66, 3) := by decide +kernel
theorem dX3_move_17 : decode cX3_move 17 = .ok (.ifCond .eq 11, 3) := by decide +kernel
theorem dX3_move_20 : decode cX3_move 20 = .ok (.iload_n 3, 1) := by decide +kernel
theorem dX3_move_21 : decode cX3_move 21 = .ok (.iconst 4, 1) := by decide +kernel
theorem dX3_move_22 : decode cX3_move 22 = .ok (.invokestatic 70, 3) := by decide +kernel
theorem dX3_move_25 : decode cX3_move 25 = .ok (.ifCond .ne 13, 3) := by decide +kernel
theorem dX3_move_28 : decode cX3_move 28 = .ok (.new 46, 3) := by decide +kernel
theorem dX3_move_31 : decode cX3_move 31 = .ok (.dup, 1) := by decide +kernel
theorem dX3_move_32 : decode cX3_move 32 = .ok (.ldc 153, 2) := by decide +kernel
theorem dX3_move_34 : decode cX3_move 34 = .ok (.invokespecial 50, 3) := by decide +kernel
theorem dX3_move_37 : decode cX3_move 37 = .ok (.athrow, 1) := by decide +kernel
theorem dX3_move_38 : decode cX3_move 38 = .ok (.iload 4, 2) := by decide +kernel
theorem dX3_move_40 : decode cX3_move 40 = .ok (.aload_n 0, 1) := by decide +kernel
theorem dX3_move_41 : decode cX3_move 41 = .ok (.getfield 38, 3) := by decide +kernel
theorem dX3_move_44 : decode cX3_move 44 = .ok (.if_icmp .le 11, 3) := by decide +kernel
theorem dX3_move_47 : decode cX3_move 47 = .ok (.iload 4, 2) := by decide +kernel
theorem dX3_move_49 : decode cX3_move 49 = .ok (.sipush 999, 3) := by decide +kernel
theorem dX3_move_52 : decode cX3_move 52 = .ok (.if_icmp .le 13, 3) := by decide +kernel
theorem dX3_move_55 : decode cX3_move 55 = .ok (.new 53, 3) := by decide +kernel
theorem dX3_move_58 : decode cX3_move 58 = .ok (.dup, 1) := by decide +kernel
theorem dX3_move_59 : decode cX3_move 59 = .ok (.ldc 155, 2) := by decide +kernel
theorem dX3_move_61 : decode cX3_move 61 = .ok (.invokespecial 57, 3) := by decide +kernel
theorem dX3_move_64 : decode cX3_move 64 = .ok (.athrow, 1) := by decide +kernel
theorem dX3_move_65 : decode cX3_move 65 = .ok (.aload_n 0, 1) := by decide +kernel
theorem dX3_move_66 : decode cX3_move 66 = .ok (.aload 5, 2) := by decide +kernel
theorem dX3_move_68 : decode cX3_move 68 = .ok (.invokevirtual 157, 3) := by decide +kernel
theorem dX3_move_71 : decode cX3_move 71 = .ok (.ifCond .eq 16, 3) := by decide +kernel
theorem dX3_move_74 : decode cX3_move 74 = .ok (.aload_n 0, 1) := by decide +kernel
theorem dX3_move_75 : decode cX3_move 75 = .ok (.aload 5, 2) := by decide +kernel
theorem dX3_move_77 : decode cX3_move 77 = .ok (.getfield 161, 3) := by decide +kernel
theorem dX3_move_80 : decode cX3_move 80 = .ok (.iload_n 3, 1) := by decide +kernel
theorem dX3_move_81 : decode cX3_move 81 = .ok (.invokevirtual 129, 3) := by decide +kernel
theorem dX3_move_84 : decode cX3_move 84 = .ok (.ifCond .ne 13, 3) := by decide +kernel
theorem dX3_move_87 : decode cX3_move 87 = .ok (.new 77, 3) := by decide +kernel
theorem dX3_move_90 : decode cX3_move 90 = .ok (.dup, 1) := by decide +kernel
theorem dX3_move_91 : decode cX3_move 91 = .ok (.ldc 165, 2) := by decide +kernel
theorem dX3_move_93 : decode cX3_move 93 = .ok (.invokespecial 81, 3) := by decide +kernel
theorem dX3_move_96 : decode cX3_move 96 = .ok (.athrow, 1) := by decide +kernel
theorem dX3_move_97 : decode cX3_move 97 = .ok (.aload_n 0, 1) := by decide +kernel
theorem dX3_move_98 : decode cX3_move 98 = .ok (.aload 5, 2) := by decide +kernel
theorem dX3_move_100 : decode cX3_move 100 = .ok (.aload 5, 2) := by decide +kernel
theorem dX3_move_102 : decode cX3_move 102 = .ok (.getfield 161, 3) := by decide +kernel
theorem dX3_move_105 : decode cX3_move 105 = .ok (.iload_n 2, 1) := by decide +kernel
theorem dX3_move_106 : decode cX3_move 106 = .ok (.iload_n 3, 1) := by decide +kernel
theorem dX3_move_107 : decode cX3_move 107 = .ok (.iload 4, 2) := by decide +kernel
theorem dX3_move_109 : decode cX3_move 109 = .ok (.aload 5, 2) := by decide +kernel
theorem dX3_move_111 : decode cX3_move 111 = .ok (.getfield 167, 3) := by decide +kernel
theorem dX3_move_114 : decode cX3_move 114 = .ok (.invokevirtual 135, 3) := by decide +kernel
theorem dX3_move_117 : decode cX3_move 117 = .ok (.ifCond .eq 13, 3) := by decide +kernel
theorem dX3_move_120 : decode cX3_move 120 = .ok (.new 77, 3) := by decide +kernel
theorem dX3_move_123 : decode cX3_move 123 = .ok (.dup, 1) := by decide +kernel
theorem dX3_move_124 : decode cX3_move 124 = .ok (.ldc 139, 2) := by decide +kernel
theorem dX3_move_126 : decode cX3_move 126 = .ok (.invokespecial 81, 3) := by decide +kernel
theorem dX3_move_129 : decode cX3_move 129 = .ok (.athrow, 1) := by decide +kernel
theorem dX3_move_130 : decode cX3_move 130 = .ok (.aload_n 0, 1) := by decide +kernel
theorem dX3_move_131 : decode cX3_move 131 = .ok (.aload 5, 2) := by decide +kernel
theorem dX3_move_133 : decode cX3_move 133 = .ok (.invokevirtual 170, 3) := by decide +kernel
theorem dX3_move_136 : decode cX3_move 136 = .ok (.aload_n 0, 1) := by decide +kernel
theorem dX3_move_137 : decode cX3_move 137 = .ok (.aload 5, 2) := by decide +kernel
theorem dX3_move_139 : decode cX3_move 139 = .ok (.iload_n 2, 1) := by decide +kernel
theorem dX3_move_140 : decode cX3_move 140 = .ok (.iload_n 3, 1) := by decide +kernel
theorem dX3_move_141 : decode cX3_move 141 = .ok (.iload 4, 2) := by decide +kernel
theorem dX3_move_143 : decode cX3_move 143 = .ok (.invokevirtual 144, 3) := by decide +kernel
theorem dX3_move_146 : decode cX3_move 146 = .ok (.aload 5, 2) := by decide +kernel
theorem dX3_move_148 : decode cX3_move 148 = .ok (.getfield 161, 3) := by decide +kernel
theorem dX3_move_151 : decode cX3_move 151 = .ok (.getfield 85, 3) := by decide +kernel
theorem dX3_move_154 : decode cX3_move 154 = .ok (.ireturn, 1) := by decide +kernel
theorem dX3_drop_0 : decode cX3_drop 0 = .ok (.aload_n 0, 1) := by decide +kernel
theorem dX3_drop_1 : decode cX3_drop 1 = .ok (.iload_n 1, 1) := by decide +kernel
theorem dX3_drop_2 : decode cX3_drop 2 = .ok (.invokevirtual 149, 3) := by decide +kernel
theorem dX3_drop_5 : decode cX3_drop 5 = .ok (.astore_n 2, 1) := by decide +kernel
theorem dX3_drop_6 : decode cX3_drop 6 = .ok (.aload_n 2, 1) := by decide +kernel
theorem dX3_drop_7 : decode cX3_drop 7 = .ok (.ifnonnull 13, 3) := by decide +kernel
theorem dX3_drop_10 : decode cX3_drop 10 = .ok (.new 46, 3) := by decide +kernel
theorem dX3_drop_13 : decode cX3_drop 13 = .ok (.dup, 1) := by decide +kernel
theorem dX3_drop_14 : decode cX3_drop 14 = .ok (.ldc 174, 2) := by decide +kernel
theorem dX3_drop_16 : decode cX3_drop 16 = .ok (.invokespecial 50, 3) := by decide +kernel
theorem dX3_drop_19 : decode cX3_drop 19 = .ok (.athrow, 1) := by decide +kernel
theorem dX3_drop_20 : decode cX3_drop 20 = .ok (.aload_n 0, 1) := by decide +kernel
theorem dX3_drop_21 : decode cX3_drop 21 = .ok (.aload_n 2, 1) := by decide +kernel
theorem dX3_drop_22 : decode cX3_drop 22 = .ok (.invokevirtual 157, 3) := by decide +kernel
theorem dX3_drop_25 : decode cX3_drop 25 = .ok (.ifCond .ne 13, 3) := by decide +kernel
theorem dX3_drop_28 : decode cX3_drop 28 = .ok (.new 77, 3) := by decide +kernel
theorem dX3_drop_31 : decode cX3_drop 31 = .ok (.dup, 1) := by decide +kernel
theorem dX3_drop_32 : decode cX3_drop 32 = .ok (.ldc 176, 2) := by decide +kernel
theorem dX3_drop_34 : decode cX3_drop 34 = .ok (.invokespecial 81, 3) := by decide +kernel
theorem dX3_drop_37 : decode cX3_drop 37 = .ok (.athrow, 1) := by decide +kernel
theorem dX3_drop_38 : decode cX3_drop 38 = .ok (.aload_n 0, 1) := by decide +kernel
theorem dX3_drop_39 : decode cX3_drop 39 = .ok (.aload_n 2, 1) := by decide +kernel
theorem dX3_drop_40 : decode cX3_drop 40 = .ok (.invokevirtual 170, 3) := by decide +kernel
theorem dX3_drop_43 : decode cX3_drop 43 = .ok (.aload_n 2, 1) := by decide +kernel
theorem dX3_drop_44 : decode cX3_drop 44 = .ok (.iconst 3, 1) := by decide +kernel
theorem dX3_drop_45 : decode cX3_drop 45 = .ok (.putfield 178, 3) := by decide +kernel
theorem dX3_drop_48 : decode cX3_drop 48 = .ok (.aload_n 2, 1) := by decide +kernel
theorem dX3_drop_49 : decode cX3_drop 49 = .ok (.getfield 161, 3) := by decide +kernel
theorem dX3_drop_52 : decode cX3_drop 52 = .ok (.getfield 85, 3) := by decide +kernel
theorem dX3_drop_55 : decode cX3_drop 55 = .ok (.ireturn, 1) := by decide +kernel
theorem dX3_notice_0 : decode cX3_notice 0 = .ok (.aload_n 0, 1) := by decide +kernel
theorem dX3_notice_1 : decode cX3_notice 1 = .ok (.iload_n 1, 1) := by decide +kernel
theorem dX3_notice_2 : decode cX3_notice 2 = .ok (.invokevirtual 149, 3) := by decide +kernel
theorem dX3_notice_5 : decode cX3_notice 5 = .ok (.astore_n 3, 1) := by decide +kernel
theorem dX3_notice_6 : decode cX3_notice 6 = .ok (.aload_n 3, 1) := by decide +kernel
theorem dX3_notice_7 : decode cX3_notice 7 = .ok (.ifnull 12, 3) := by decide +kernel
theorem dX3_notice_10 : decode cX3_notice 10 = .ok (.iload_n 2, 1) := by decide +kernel
theorem dX3_notice_11 : decode cX3_notice 11 = .ok (.bipush 6, 2) := by decide +kernel
theorem dX3_notice_13 : decode cX3_notice 13 = .ok (.invokestatic 66, 3) := by decide +kernel
theorem dX3_notice_16 : decode cX3_notice 16 = .ok (.ifCond .ne 13, 3) := by decide +kernel
theorem dX3_notice_19 : decode cX3_notice 19 = .ok (.new 46, 3) := by decide +kernel
theorem dX3_notice_22 : decode cX3_notice 22 = .ok (.dup, 1) := by decide +kernel
theorem dX3_notice_23 : decode cX3_notice 23 = .ok (.ldc 179, 2) := by decide +kernel
theorem dX3_notice_25 : decode cX3_notice 25 = .ok (.invokespecial 50, 3) := by decide +kernel
theorem dX3_notice_28 : decode cX3_notice 28 = .ok (.athrow, 1) := by decide +kernel
theorem dX3_notice_29 : decode cX3_notice 29 = .ok (.aload_n 3, 1) := by decide +kernel
theorem dX3_notice_30 : decode cX3_notice 30 = .ok (.getfield 161, 3) := by decide +kernel
theorem dX3_notice_33 : decode cX3_notice 33 = .ok (.iload_n 2, 1) := by decide +kernel
theorem dX3_notice_34 : decode cX3_notice 34 = .ok (.invokevirtual 181, 3) := by decide +kernel
theorem dX3_notice_37 : decode cX3_notice 37 = .ok (.ifCond .ne 13, 3) := by decide +kernel
theorem dX3_notice_40 : decode cX3_notice 40 = .ok (.new 53, 3) := by decide +kernel
theorem dX3_notice_43 : decode cX3_notice 43 = .ok (.dup, 1) := by decide +kernel
theorem dX3_notice_44 : decode cX3_notice 44 = .ok (.ldc 185, 2) := by decide +kernel
theorem dX3_notice_46 : decode cX3_notice 46 = .ok (.invokespecial 57, 3) := by decide +kernel
theorem dX3_notice_49 : decode cX3_notice 49 = .ok (.athrow, 1) := by decide +kernel
theorem dX3_notice_50 : decode cX3_notice 50 = .ok (.aload_n 3, 1) := by decide +kernel
theorem dX3_notice_51 : decode cX3_notice 51 = .ok (.getfield 178, 3) := by decide +kernel
theorem dX3_notice_54 : decode cX3_notice 54 = .ok (.ifCond .eq 13, 3) := by decide +kernel
theorem dX3_notice_57 : decode cX3_notice 57 = .ok (.new 77, 3) := by decide +kernel
theorem dX3_notice_60 : decode cX3_notice 60 = .ok (.dup, 1) := by decide +kernel
theorem dX3_notice_61 : decode cX3_notice 61 = .ok (.ldc 187, 2) := by decide +kernel
theorem dX3_notice_63 : decode cX3_notice 63 = .ok (.invokespecial 81, 3) := by decide +kernel
theorem dX3_notice_66 : decode cX3_notice 66 = .ok (.athrow, 1) := by decide +kernel
theorem dX3_notice_67 : decode cX3_notice 67 = .ok (.aload_n 3, 1) := by decide +kernel
theorem dX3_notice_68 : decode cX3_notice 68 = .ok (.getfield 189, 3) := by decide +kernel
theorem dX3_notice_71 : decode cX3_notice 71 = .ok (.aload_n 0, 1) := by decide +kernel
theorem dX3_notice_72 : decode cX3_notice 72 = .ok (.getfield 38, 3) := by decide +kernel
theorem dX3_notice_75 : decode cX3_notice 75 = .ok (.isub, 1) := by decide +kernel
theorem dX3_notice_76 : decode cX3_notice 76 = .ok (.iconst 4, 1) := by decide +kernel
theorem dX3_notice_77 : decode cX3_notice 77 = .ok (.if_icmp .lt 7, 3) := by decide +kernel
theorem dX3_notice_80 : decode cX3_notice 80 = .ok (.iconst 1, 1) := by decide +kernel
theorem dX3_notice_81 : decode cX3_notice 81 = .ok (.goto 4, 3) := by decide +kernel
theorem dX3_notice_84 : decode cX3_notice 84 = .ok (.iconst 0, 1) := by decide +kernel
theorem dX3_notice_85 : decode cX3_notice 85 = .ok (.istore 4, 2) := by decide +kernel
theorem dX3_notice_87 : decode cX3_notice 87 = .ok (.iload 4, 2) := by decide +kernel
theorem dX3_notice_89 : decode cX3_notice 89 = .ok (.ifCond .eq 8, 3) := by decide +kernel
theorem dX3_notice_92 : decode cX3_notice 92 = .ok (.aload_n 3, 1) := by decide +kernel
theorem dX3_notice_93 : decode cX3_notice 93 = .ok (.iload_n 2, 1) := by decide +kernel
theorem dX3_notice_94 : decode cX3_notice 94 = .ok (.invokevirtual 192, 3) := by decide +kernel
theorem dX3_notice_97 : decode cX3_notice 97 = .ok (.iload 4, 2) := by decide +kernel
theorem dX3_notice_99 : decode cX3_notice 99 = .ok (.ireturn, 1) := by decide +kernel
theorem dX3_pass_0 : decode cX3_pass 0 = .ok (.iload_n 1, 1) := by decide +kernel
theorem dX3_pass_1 : decode cX3_pass 1 = .ok (.iconst 1, 1) := by decide +kernel
theorem dX3_pass_2 : decode cX3_pass 2 = .ok (.if_icmp .lt 9, 3) := by decide +kernel
theorem dX3_pass_5 : decode cX3_pass 5 = .ok (.iload_n 1, 1) := by decide +kernel
theorem dX3_pass_6 : decode cX3_pass 6 = .ok (.bipush 50, 2) := by decide +kernel
theorem dX3_pass_8 : decode cX3_pass 8 = .ok (.if_icmp .le 13, 3) := by decide +kernel
theorem dX3_pass_11 : decode cX3_pass 11 = .ok (.new 53, 3) := by decide +kernel
theorem dX3_pass_14 : decode cX3_pass 14 = .ok (.dup, 1) := by decide +kernel
theorem dX3_pass_15 : decode cX3_pass 15 = .ok (.ldc 196, 2) := by decide +kernel
theorem dX3_pass_17 : decode cX3_pass 17 = .ok (.invokespecial 57, 3) := by decide +kernel
theorem dX3_pass_20 : decode cX3_pass 20 = .ok (.athrow, 1) := by decide +kernel
theorem dX3_pass_21 : decode cX3_pass 21 = .ok (.aload_n 0, 1) := by decide +kernel
theorem dX3_pass_22 : decode cX3_pass 22 = .ok (.getfield 38, 3) := by decide +kernel
theorem dX3_pass_25 : decode cX3_pass 25 = .ok (.iload_n 1, 1) := by decide +kernel
theorem dX3_pass_26 : decode cX3_pass 26 = .ok (.iadd, 1) := by decide +kernel
theorem dX3_pass_27 : decode cX3_pass 27 = .ok (.sipush 1000, 3) := by decide +kernel
theorem dX3_pass_30 : decode cX3_pass 30 = .ok (.if_icmp .le 13, 3) := by decide +kernel
theorem dX3_pass_33 : decode cX3_pass 33 = .ok (.new 77, 3) := by decide +kernel
theorem dX3_pass_36 : decode cX3_pass 36 = .ok (.dup, 1) := by decide +kernel
theorem dX3_pass_37 : decode cX3_pass 37 = .ok (.ldc 198, 2) := by decide +kernel
theorem dX3_pass_39 : decode cX3_pass 39 = .ok (.invokespecial 81, 3) := by decide +kernel
theorem dX3_pass_42 : decode cX3_pass 42 = .ok (.athrow, 1) := by decide +kernel
theorem dX3_pass_43 : decode cX3_pass 43 = .ok (.iconst 0, 1) := by decide +kernel
theorem dX3_pass_44 : decode cX3_pass 44 = .ok (.istore_n 2, 1) := by decide +kernel
theorem dX3_pass_45 : decode cX3_pass 45 = .ok (.iconst 0, 1) := by decide +kernel
theorem dX3_pass_46 : decode cX3_pass 46 = .ok (.istore_n 3, 1) := by decide +kernel
theorem dX3_pass_47 : decode cX3_pass 47 = .ok (.iload_n 3, 1) := by decide +kernel
theorem dX3_pass_48 : decode cX3_pass 48 = .ok (.iload_n 1, 1) := by decide +kernel
theorem dX3_pass_49 : decode cX3_pass 49 = .ok (.if_icmp .ge 30, 3) := by decide +kernel
theorem dX3_pass_52 : decode cX3_pass 52 = .ok (.aload_n 0, 1) := by decide +kernel
theorem dX3_pass_53 : decode cX3_pass 53 = .ok (.dup, 1) := by decide +kernel
theorem dX3_pass_54 : decode cX3_pass 54 = .ok (.getfield 38, 3) := by decide +kernel
theorem dX3_pass_57 : decode cX3_pass 57 = .ok (.iconst 1, 1) := by decide +kernel
theorem dX3_pass_58 : decode cX3_pass 58 = .ok (.iadd, 1) := by decide +kernel
theorem dX3_pass_59 : decode cX3_pass 59 = .ok (.putfield 38, 3) := by decide +kernel
theorem dX3_pass_62 : decode cX3_pass 62 = .ok (.iload_n 2, 1) := by decide +kernel
theorem dX3_pass_63 : decode cX3_pass 63 = .ok (.aload_n 0, 1) := by decide +kernel
theorem dX3_pass_64 : decode cX3_pass 64 = .ok (.invokevirtual 200, 3) := by decide +kernel
theorem dX3_pass_67 : decode cX3_pass 67 = .ok (.iadd, 1) := by decide +kernel
theorem dX3_pass_68 : decode cX3_pass 68 = .ok (.istore_n 2, 1) := by decide +kernel
theorem dX3_pass_69 : decode cX3_pass 69 = .ok (.aload_n 0, 1) := by decide +kernel
theorem dX3_pass_70 : decode cX3_pass 70 = .ok (.invokevirtual 204, 3) := by decide +kernel
theorem dX3_pass_73 : decode cX3_pass 73 = .ok (.iinc 3 1, 3) := by decide +kernel
theorem dX3_pass_76 : decode cX3_pass 76 = .ok (.goto (-29), 3) := by decide +kernel
theorem dX3_pass_79 : decode cX3_pass 79 = .ok (.iload_n 2, 1) := by decide +kernel
theorem dX3_pass_80 : decode cX3_pass 80 = .ok (.ireturn, 1) := by decide +kernel
theorem dX3_clash_0 : decode cX3_clash 0 = .ok (.aload_n 0, 1) := by decide +kernel
theorem dX3_clash_1 : decode cX3_clash 1 = .ok (.iload_n 1, 1) := by decide +kernel
theorem dX3_clash_2 : decode cX3_clash 2 = .ok (.invokevirtual 95, 3) := by decide +kernel
theorem dX3_clash_5 : decode cX3_clash 5 = .ok (.astore 6, 2) := by decide +kernel
theorem dX3_clash_7 : decode cX3_clash 7 = .ok (.aload 6, 2) := by decide +kernel
theorem dX3_clash_9 : decode cX3_clash 9 = .ok (.ifnull 19, 3) := by decide +kernel
theorem dX3_clash_12 : decode cX3_clash 12 = .ok (.iload_n 2, 1) := by decide +kernel
theorem dX3_clash_13 : decode cX3_clash 13 = .ok (.iconst 4, 1) := by decide +kernel
theorem dX3_clash_14 : decode cX3_clash 14 = .ok (.invokestatic 66, 3) := by decide +kernel
theorem dX3_clash_17 : decode cX3_clash 17 = .ok (.ifCond .eq 11, 3) := by decide +kernel
theorem dX3_clash_20 : decode cX3_clash 20 = .ok (.iload_n 3, 1) := by decide +kernel
theorem dX3_clash_21 : decode cX3_clash 21 = .ok (.iconst 4, 1) := by decide +kernel
theorem dX3_clash_22 : decode cX3_clash 22 = .ok (.invokestatic 70, 3) := by decide +kernel
theorem dX3_clash_25 : decode cX3_clash 25 = .ok (.ifCond .ne 13, 3) := by decide +kernel
theorem dX3_clash_28 : decode cX3_clash 28 = .ok (.new 46, 3) := by decide +kernel
theorem dX3_clash_31 : decode cX3_clash 31 = .ok (.dup, 1) := by decide +kernel
theorem dX3_clash_32 : decode cX3_clash 32 = .ok (.ldc 121, 2) := by decide +kernel
theorem dX3_clash_34 : decode cX3_clash 34 = .ok (.invokespecial 50, 3) := by decide +kernel
theorem dX3_clash_37 : decode cX3_clash 37 = .ok (.athrow, 1) := by decide +kernel
theorem dX3_clash_38 : decode cX3_clash 38 = .ok (.iload 4, 2) := by decide +kernel
theorem dX3_clash_40 : decode cX3_clash 40 = .ok (.ifCond .lt 23, 3) := by decide +kernel
theorem dX3_clash_43 : decode cX3_clash 43 = .ok (.iload 4, 2) := by decide +kernel
theorem dX3_clash_45 : decode cX3_clash 45 = .ok (.sipush 999, 3) := by decide +kernel
theorem dX3_clash_48 : decode cX3_clash 48 = .ok (.if_icmp .gt 15, 3) := by decide +kernel
theorem dX3_clash_51 : decode cX3_clash 51 = .ok (.iload 5, 2) := by decide +kernel
theorem dX3_clash_53 : decode cX3_clash 53 = .ok (.iconst 1, 1) := by decide +kernel
theorem dX3_clash_54 : decode cX3_clash 54 = .ok (.if_icmp .lt 9, 3) := by decide +kernel
theorem dX3_clash_57 : decode cX3_clash 57 = .ok (.iload 5, 2) := by decide +kernel
theorem dX3_clash_59 : decode cX3_clash 59 = .ok (.iconst 4, 1) := by decide +kernel
theorem dX3_clash_60 : decode cX3_clash 60 = .ok (.if_icmp .le 13, 3) := by decide +kernel
theorem dX3_clash_63 : decode cX3_clash 63 = .ok (.new 53, 3) := by decide +kernel
theorem dX3_clash_66 : decode cX3_clash 66 = .ok (.dup, 1) := by decide +kernel
theorem dX3_clash_67 : decode cX3_clash 67 = .ok (.ldc 123, 2) := by decide +kernel
theorem dX3_clash_69 : decode cX3_clash 69 = .ok (.invokespecial 57, 3) := by decide +kernel
theorem dX3_clash_72 : decode cX3_clash 72 = .ok (.athrow, 1) := by decide +kernel
theorem dX3_clash_73 : decode cX3_clash 73 = .ok (.aload_n 0, 1) := by decide +kernel
theorem dX3_clash_74 : decode cX3_clash 74 = .ok (.aconst_null, 1) := by decide +kernel
theorem dX3_clash_75 : decode cX3_clash 75 = .ok (.aload 6, 2) := by decide +kernel
theorem dX3_clash_77 : decode cX3_clash 77 = .ok (.iload_n 2, 1) := by decide +kernel
theorem dX3_clash_78 : decode cX3_clash 78 = .ok (.iload_n 3, 1) := by decide +kernel
theorem dX3_clash_79 : decode cX3_clash 79 = .ok (.iload 4, 2) := by decide +kernel
theorem dX3_clash_81 : decode cX3_clash 81 = .ok (.iload 5, 2) := by decide +kernel
theorem dX3_clash_83 : decode cX3_clash 83 = .ok (.invokevirtual 135, 3) := by decide +kernel
theorem dX3_clash_86 : decode cX3_clash 86 = .ok (.ireturn, 1) := by decide +kernel
theorem dX3_at_0 : decode cX3_at 0 = .ok (.iload_n 1, 1) := by decide +kernel
theorem dX3_at_1 : decode cX3_at 1 = .ok (.iconst 4, 1) := by decide +kernel
theorem dX3_at_2 : decode cX3_at 2 = .ok (.invokestatic 66, 3) := by decide +kernel
theorem dX3_at_5 : decode cX3_at 5 = .ok (.ifCond .ne 13, 3) := by decide +kernel
theorem dX3_at_8 : decode cX3_at 8 = .ok (.new 53, 3) := by decide +kernel
theorem dX3_at_11 : decode cX3_at 11 = .ok (.dup, 1) := by decide +kernel
theorem dX3_at_12 : decode cX3_at 12 = .ok (.ldc 207, 2) := by decide +kernel
theorem dX3_at_14 : decode cX3_at 14 = .ok (.invokespecial 57, 3) := by decide +kernel
theorem dX3_at_17 : decode cX3_at 17 = .ok (.athrow, 1) := by decide +kernel
theorem dX3_at_18 : decode cX3_at 18 = .ok (.iload_n 2, 1) := by decide +kernel
theorem dX3_at_19 : decode cX3_at 19 = .ok (.iload_n 1, 1) := by decide +kernel
theorem dX3_at_20 : decode cX3_at 20 = .ok (.invokestatic 209, 3) := by decide +kernel
theorem dX3_at_23 : decode cX3_at 23 = .ok (.invokestatic 66, 3) := by decide +kernel
theorem dX3_at_26 : decode cX3_at 26 = .ok (.ifCond .eq 10, 3) := by decide +kernel
theorem dX3_at_29 : decode cX3_at 29 = .ok (.iload_n 3, 1) := by decide +kernel
theorem dX3_at_30 : decode cX3_at 30 = .ok (.invokestatic 213, 3) := by decide +kernel
theorem dX3_at_33 : decode cX3_at 33 = .ok (.ifCond .ne 13, 3) := by decide +kernel
theorem dX3_at_36 : decode cX3_at 36 = .ok (.new 46, 3) := by decide +kernel
theorem dX3_at_39 : decode cX3_at 39 = .ok (.dup, 1) := by decide +kernel
theorem dX3_at_40 : decode cX3_at 40 = .ok (.ldc 216, 2) := by decide +kernel
theorem dX3_at_42 : decode cX3_at 42 = .ok (.invokespecial 50, 3) := by decide +kernel
theorem dX3_at_45 : decode cX3_at 45 = .ok (.athrow, 1) := by decide +kernel
theorem dX3_at_46 : decode cX3_at 46 = .ok (.iconst 0, 1) := by decide +kernel
theorem dX3_at_47 : decode cX3_at 47 = .ok (.istore 4, 2) := by decide +kernel
theorem dX3_at_49 : decode cX3_at 49 = .ok (.iload 4, 2) := by decide +kernel
theorem dX3_at_51 : decode cX3_at 51 = .ok (.aload_n 0, 1) := by decide +kernel
theorem dX3_at_52 : decode cX3_at 52 = .ok (.getfield 35, 3) := by decide +kernel
theorem dX3_at_55 : decode cX3_at 55 = .ok (.if_icmp .ge 48, 3) := by decide +kernel
theorem dX3_at_58 : decode cX3_at 58 = .ok (.aload_n 0, 1) := by decide +kernel
theorem dX3_at_59 : decode cX3_at 59 = .ok (.iload 4, 2) := by decide +kernel
theorem dX3_at_61 : decode cX3_at 61 = .ok (.invokevirtual 149, 3) := by decide +kernel
theorem dX3_at_64 : decode cX3_at 64 = .ok (.astore 5, 2) := by decide +kernel
theorem dX3_at_66 : decode cX3_at 66 = .ok (.aload 5, 2) := by decide +kernel
theorem dX3_at_68 : decode cX3_at 68 = .ok (.ifnull 29, 3) := by decide +kernel
theorem dX3_at_71 : decode cX3_at 71 = .ok (.aload 5, 2) := by decide +kernel
theorem dX3_at_73 : decode cX3_at 73 = .ok (.iload_n 3, 1) := by decide +kernel
theorem dX3_at_74 : decode cX3_at 74 = .ok (.iconst 1, 1) := by decide +kernel
theorem dX3_at_75 : decode cX3_at 75 = .ok (.invokevirtual 218, 3) := by decide +kernel
theorem dX3_at_78 : decode cX3_at 78 = .ok (.ifCond .eq 19, 3) := by decide +kernel
theorem dX3_at_81 : decode cX3_at 81 = .ok (.aload 5, 2) := by decide +kernel
theorem dX3_at_83 : decode cX3_at 83 = .ok (.iload_n 1, 1) := by decide +kernel
theorem dX3_at_84 : decode cX3_at 84 = .ok (.iload_n 2, 1) := by decide +kernel
theorem dX3_at_85 : decode cX3_at 85 = .ok (.invokevirtual 221, 3) := by decide +kernel
theorem dX3_at_88 : decode cX3_at 88 = .ok (.ifCond .eq 9, 3) := by decide +kernel
theorem dX3_at_91 : decode cX3_at 91 = .ok (.aload 5, 2) := by decide +kernel
theorem dX3_at_93 : decode cX3_at 93 = .ok (.getfield 148, 3) := by decide +kernel
theorem dX3_at_96 : decode cX3_at 96 = .ok (.ireturn, 1) := by decide +kernel
theorem dX3_at_97 : decode cX3_at 97 = .ok (.iinc 4 1, 3) := by decide +kernel
theorem dX3_at_100 : decode cX3_at 100 = .ok (.goto (-51), 3) := by decide +kernel
theorem dX3_at_103 : decode cX3_at 103 = .ok (.iconst (-1), 1) := by decide +kernel
theorem dX3_at_104 : decode cX3_at 104 = .ok (.ireturn, 1) := by decide +kernel
theorem dX3_about_0 : decode cX3_about 0 = .ok (.aload_n 0, 1) := by decide +kernel
theorem dX3_about_1 : decode cX3_about 1 = .ok (.iload_n 1, 1) := by decide +kernel
theorem dX3_about_2 : decode cX3_about 2 = .ok (.invokevirtual 95, 3) := by decide +kernel
theorem dX3_about_5 : decode cX3_about 5 = .ok (.astore_n 3, 1) := by decide +kernel
theorem dX3_about_6 : decode cX3_about 6 = .ok (.aload_n 3, 1) := by decide +kernel
theorem dX3_about_7 : decode cX3_about 7 = .ok (.ifnonnull 13, 3) := by decide +kernel
theorem dX3_about_10 : decode cX3_about 10 = .ok (.new 46, 3) := by decide +kernel
theorem dX3_about_13 : decode cX3_about 13 = .ok (.dup, 1) := by decide +kernel
theorem dX3_about_14 : decode cX3_about 14 = .ok (.ldc 99, 2) := by decide +kernel
theorem dX3_about_16 : decode cX3_about 16 = .ok (.invokespecial 50, 3) := by decide +kernel
theorem dX3_about_19 : decode cX3_about 19 = .ok (.athrow, 1) := by decide +kernel
theorem dX3_about_20 : decode cX3_about 20 = .ok (.iload_n 2, 1) := by decide +kernel
theorem dX3_about_21 : decode cX3_about 21 = .ok (.bipush 8, 2) := by decide +kernel
theorem dX3_about_23 : decode cX3_about 23 = .ok (.invokestatic 66, 3) := by decide +kernel
theorem dX3_about_26 : decode cX3_about 26 = .ok (.ifCond .ne 13, 3) := by decide +kernel
theorem dX3_about_29 : decode cX3_about 29 = .ok (.new 53, 3) := by decide +kernel
theorem dX3_about_32 : decode cX3_about 32 = .ok (.dup, 1) := by decide +kernel
theorem dX3_about_33 : decode cX3_about 33 = .ok (.ldc 207, 2) := by decide +kernel
theorem dX3_about_35 : decode cX3_about 35 = .ok (.invokespecial 57, 3) := by decide +kernel
theorem dX3_about_38 : decode cX3_about 38 = .ok (.athrow, 1) := by decide +kernel
theorem dX3_about_39 : decode cX3_about 39 = .ok (.iload_n 2, 1) := by decide +kernel
theorem dX3_about_40 : decode cX3_about 40 = .ok (.tableswitch 79 0 6 #[44, 49, 54, 59, 64, 69, 74], 44) := by decide +kernel
theorem dX3_about_84 : decode cX3_about 84 = .ok (.aload_n 3, 1) := by decide +kernel
theorem dX3_about_85 : decode cX3_about 85 = .ok (.getfield 103, 3) := by decide +kernel
theorem dX3_about_88 : decode cX3_about 88 = .ok (.ireturn, 1) := by decide +kernel
theorem dX3_about_89 : decode cX3_about 89 = .ok (.aload_n 3, 1) := by decide +kernel
theorem dX3_about_90 : decode cX3_about 90 = .ok (.getfield 224, 3) := by decide +kernel
theorem dX3_about_93 : decode cX3_about 93 = .ok (.ireturn, 1) := by decide +kernel
theorem dX3_about_94 : decode cX3_about 94 = .ok (.aload_n 3, 1) := by decide +kernel
theorem dX3_about_95 : decode cX3_about 95 = .ok (.getfield 227, 3) := by decide +kernel
theorem dX3_about_98 : decode cX3_about 98 = .ok (.ireturn, 1) := by decide +kernel
theorem dX3_about_99 : decode cX3_about 99 = .ok (.aload_n 3, 1) := by decide +kernel
theorem dX3_about_100 : decode cX3_about 100 = .ok (.getfield 230, 3) := by decide +kernel
theorem dX3_about_103 : decode cX3_about 103 = .ok (.ireturn, 1) := by decide +kernel
theorem dX3_about_104 : decode cX3_about 104 = .ok (.aload_n 3, 1) := by decide +kernel
theorem dX3_about_105 : decode cX3_about 105 = .ok (.getfield 233, 3) := by decide +kernel
theorem dX3_about_108 : decode cX3_about 108 = .ok (.ireturn, 1) := by decide +kernel
theorem dX3_about_109 : decode cX3_about 109 = .ok (.aload_n 3, 1) := by decide +kernel
theorem dX3_about_110 : decode cX3_about 110 = .ok (.getfield 85, 3) := by decide +kernel
theorem dX3_about_113 : decode cX3_about 113 = .ok (.ireturn, 1) := by decide +kernel
theorem dX3_about_114 : decode cX3_about 114 = .ok (.aload_n 3, 1) := by decide +kernel
theorem dX3_about_115 : decode cX3_about 115 = .ok (.getfield 116, 3) := by decide +kernel
theorem dX3_about_118 : decode cX3_about 118 = .ok (.ireturn, 1) := by decide +kernel
theorem dX3_about_119 : decode cX3_about 119 = .ok (.aload_n 0, 1) := by decide +kernel
theorem dX3_about_120 : decode cX3_about 120 = .ok (.aload_n 3, 1) := by decide +kernel
theorem dX3_about_121 : decode cX3_about 121 = .ok (.invokevirtual 236, 3) := by decide +kernel
theorem dX3_about_124 : decode cX3_about 124 = .ok (.ireturn, 1) := by decide +kernel
theorem dX3_hearing_0 : decode cX3_hearing 0 = .ok (.aload_n 0, 1) := by decide +kernel
theorem dX3_hearing_1 : decode cX3_hearing 1 = .ok (.iload_n 1, 1) := by decide +kernel
theorem dX3_hearing_2 : decode cX3_hearing 2 = .ok (.invokevirtual 149, 3) := by decide +kernel
theorem dX3_hearing_5 : decode cX3_hearing 5 = .ok (.astore_n 3, 1) := by decide +kernel
theorem dX3_hearing_6 : decode cX3_hearing 6 = .ok (.aload_n 3, 1) := by decide +kernel
theorem dX3_hearing_7 : decode cX3_hearing 7 = .ok (.ifnonnull 13, 3) := by decide +kernel
theorem dX3_hearing_10 : decode cX3_hearing 10 = .ok (.new 46, 3) := by decide +kernel
theorem dX3_hearing_13 : decode cX3_hearing 13 = .ok (.dup, 1) := by decide +kernel
theorem dX3_hearing_14 : decode cX3_hearing 14 = .ok (.ldc 174, 2) := by decide +kernel
theorem dX3_hearing_16 : decode cX3_hearing 16 = .ok (.invokespecial 50, 3) := by decide +kernel
theorem dX3_hearing_19 : decode cX3_hearing 19 = .ok (.athrow, 1) := by decide +kernel
theorem dX3_hearing_20 : decode cX3_hearing 20 = .ok (.iload_n 2, 1) := by decide +kernel
theorem dX3_hearing_21 : decode cX3_hearing 21 = .ok (.bipush 8, 2) := by decide +kernel
theorem dX3_hearing_23 : decode cX3_hearing 23 = .ok (.invokestatic 66, 3) := by decide +kernel
theorem dX3_hearing_26 : decode cX3_hearing 26 = .ok (.ifCond .ne 13, 3) := by decide +kernel
theorem dX3_hearing_29 : decode cX3_hearing 29 = .ok (.new 53, 3) := by decide +kernel
theorem dX3_hearing_32 : decode cX3_hearing 32 = .ok (.dup, 1) := by decide +kernel
theorem dX3_hearing_33 : decode cX3_hearing 33 = .ok (.ldc 207, 2) := by decide +kernel
theorem dX3_hearing_35 : decode cX3_hearing 35 = .ok (.invokespecial 57, 3) := by decide +kernel
theorem dX3_hearing_38 : decode cX3_hearing 38 = .ok (.athrow, 1) := by decide +kernel
theorem dX3_hearing_39 : decode cX3_hearing 39 = .ok (.iload_n 2, 1) := by decide +kernel
theorem dX3_hearing_40 : decode cX3_hearing 40 = .ok (.tableswitch 82 0 6 #[44, 49, 57, 62, 67, 72, 77], 44) := by decide +kernel
theorem dX3_hearing_84 : decode cX3_hearing 84 = .ok (.aload_n 3, 1) := by decide +kernel
theorem dX3_hearing_85 : decode cX3_hearing 85 = .ok (.getfield 178, 3) := by decide +kernel
theorem dX3_hearing_88 : decode cX3_hearing 88 = .ok (.ireturn, 1) := by decide +kernel
theorem dX3_hearing_89 : decode cX3_hearing 89 = .ok (.aload_n 3, 1) := by decide +kernel
theorem dX3_hearing_90 : decode cX3_hearing 90 = .ok (.getfield 161, 3) := by decide +kernel
theorem dX3_hearing_93 : decode cX3_hearing 93 = .ok (.getfield 92, 3) := by decide +kernel
theorem dX3_hearing_96 : decode cX3_hearing 96 = .ok (.ireturn, 1) := by decide +kernel
theorem dX3_hearing_97 : decode cX3_hearing 97 = .ok (.aload_n 3, 1) := by decide +kernel
theorem dX3_hearing_98 : decode cX3_hearing 98 = .ok (.getfield 239, 3) := by decide +kernel
theorem dX3_hearing_101 : decode cX3_hearing 101 = .ok (.ireturn, 1) := by decide +kernel
theorem dX3_hearing_102 : decode cX3_hearing 102 = .ok (.aload_n 3, 1) := by decide +kernel
theorem dX3_hearing_103 : decode cX3_hearing 103 = .ok (.getfield 242, 3) := by decide +kernel
theorem dX3_hearing_106 : decode cX3_hearing 106 = .ok (.ireturn, 1) := by decide +kernel
theorem dX3_hearing_107 : decode cX3_hearing 107 = .ok (.aload_n 3, 1) := by decide +kernel
theorem dX3_hearing_108 : decode cX3_hearing 108 = .ok (.getfield 189, 3) := by decide +kernel
theorem dX3_hearing_111 : decode cX3_hearing 111 = .ok (.ireturn, 1) := by decide +kernel
theorem dX3_hearing_112 : decode cX3_hearing 112 = .ok (.aload_n 3, 1) := by decide +kernel
theorem dX3_hearing_113 : decode cX3_hearing 113 = .ok (.getfield 167, 3) := by decide +kernel
theorem dX3_hearing_116 : decode cX3_hearing 116 = .ok (.ireturn, 1) := by decide +kernel
theorem dX3_hearing_117 : decode cX3_hearing 117 = .ok (.aload_n 3, 1) := by decide +kernel
theorem dX3_hearing_118 : decode cX3_hearing 118 = .ok (.invokevirtual 245, 3) := by decide +kernel
theorem dX3_hearing_121 : decode cX3_hearing 121 = .ok (.ireturn, 1) := by decide +kernel
theorem dX3_hearing_122 : decode cX3_hearing 122 = .ok (.aload_n 3, 1) := by decide +kernel
theorem dX3_hearing_123 : decode cX3_hearing 123 = .ok (.invokevirtual 248, 3) := by decide +kernel
theorem dX3_hearing_126 : decode cX3_hearing 126 = .ok (.ireturn, 1) := by decide +kernel
theorem dX3_paidBy_0 : decode cX3_paidBy 0 = .ok (.aload_n 0, 1) := by decide +kernel
theorem dX3_paidBy_1 : decode cX3_paidBy 1 = .ok (.iload_n 1, 1) := by decide +kernel
theorem dX3_paidBy_2 : decode cX3_paidBy 2 = .ok (.invokevirtual 42, 3) := by decide +kernel
theorem dX3_paidBy_5 : decode cX3_paidBy 5 = .ok (.astore_n 3, 1) := by decide +kernel
theorem dX3_paidBy_6 : decode cX3_paidBy 6 = .ok (.aload_n 3, 1) := by decide +kernel
theorem dX3_paidBy_7 : decode cX3_paidBy 7 = .ok (.ifnull 10, 3) := by decide +kernel
theorem dX3_paidBy_10 : decode cX3_paidBy 10 = .ok (.iload_n 2, 1) := by decide +kernel
theorem dX3_paidBy_11 : decode cX3_paidBy 11 = .ok (.invokestatic 213, 3) := by decide +kernel
theorem dX3_paidBy_14 : decode cX3_paidBy 14 = .ok (.ifCond .ne 13, 3) := by decide +kernel
theorem dX3_paidBy_17 : decode cX3_paidBy 17 = .ok (.new 46, 3) := by decide +kernel
theorem dX3_paidBy_20 : decode cX3_paidBy 20 = .ok (.dup, 1) := by decide +kernel
theorem dX3_paidBy_21 : decode cX3_paidBy 21 = .ok (.ldc 251, 2) := by decide +kernel
theorem dX3_paidBy_23 : decode cX3_paidBy 23 = .ok (.invokespecial 50, 3) := by decide +kernel
theorem dX3_paidBy_26 : decode cX3_paidBy 26 = .ok (.athrow, 1) := by decide +kernel
theorem dX3_paidBy_27 : decode cX3_paidBy 27 = .ok (.aload_n 3, 1) := by decide +kernel
theorem dX3_paidBy_28 : decode cX3_paidBy 28 = .ok (.iload_n 2, 1) := by decide +kernel
theorem dX3_paidBy_29 : decode cX3_paidBy 29 = .ok (.aload_n 0, 1) := by decide +kernel
theorem dX3_paidBy_30 : decode cX3_paidBy 30 = .ok (.getfield 38, 3) := by decide +kernel
theorem dX3_paidBy_33 : decode cX3_paidBy 33 = .ok (.invokevirtual 253, 3) := by decide +kernel
theorem dX3_paidBy_36 : decode cX3_paidBy 36 = .ok (.astore 4, 2) := by decide +kernel
theorem dX3_paidBy_38 : decode cX3_paidBy 38 = .ok (.aload 4, 2) := by decide +kernel
theorem dX3_paidBy_40 : decode cX3_paidBy 40 = .ok (.ifnonnull 7, 3) := by decide +kernel
theorem dX3_paidBy_43 : decode cX3_paidBy 43 = .ok (.iconst (-1), 1) := by decide +kernel
theorem dX3_paidBy_44 : decode cX3_paidBy 44 = .ok (.goto 8, 3) := by decide +kernel
theorem dX3_paidBy_47 : decode cX3_paidBy 47 = .ok (.aload 4, 2) := by decide +kernel
theorem dX3_paidBy_49 : decode cX3_paidBy 49 = .ok (.getfield 92, 3) := by decide +kernel
theorem dX3_paidBy_52 : decode cX3_paidBy 52 = .ok (.ireturn, 1) := by decide +kernel
theorem dX3_balances_0 : decode cX3_balances 0 = .ok (.iconst 0, 1) := by decide +kernel
theorem dX3_balances_1 : decode cX3_balances 1 = .ok (.istore_n 1, 1) := by decide +kernel
theorem dX3_balances_2 : decode cX3_balances 2 = .ok (.iconst 0, 1) := by decide +kernel
theorem dX3_balances_3 : decode cX3_balances 3 = .ok (.istore_n 2, 1) := by decide +kernel
theorem dX3_balances_4 : decode cX3_balances 4 = .ok (.iload_n 2, 1) := by decide +kernel
theorem dX3_balances_5 : decode cX3_balances 5 = .ok (.aload_n 0, 1) := by decide +kernel
theorem dX3_balances_6 : decode cX3_balances 6 = .ok (.getfield 31, 3) := by decide +kernel
theorem dX3_balances_9 : decode cX3_balances 9 = .ok (.if_icmp .ge 26, 3) := by decide +kernel
theorem dX3_balances_12 : decode cX3_balances 12 = .ok (.aload_n 0, 1) := by decide +kernel
theorem dX3_balances_13 : decode cX3_balances 13 = .ok (.iload_n 2, 1) := by decide +kernel
theorem dX3_balances_14 : decode cX3_balances 14 = .ok (.invokevirtual 95, 3) := by decide +kernel
theorem dX3_balances_17 : decode cX3_balances 17 = .ok (.astore_n 3, 1) := by decide +kernel
theorem dX3_balances_18 : decode cX3_balances 18 = .ok (.aload_n 3, 1) := by decide +kernel
theorem dX3_balances_19 : decode cX3_balances 19 = .ok (.ifnull 10, 3) := by decide +kernel
theorem dX3_balances_22 : decode cX3_balances 22 = .ok (.iload_n 1, 1) := by decide +kernel
theorem dX3_balances_23 : decode cX3_balances 23 = .ok (.aload_n 3, 1) := by decide +kernel
theorem dX3_balances_24 : decode cX3_balances 24 = .ok (.getfield 85, 3) := by decide +kernel
theorem dX3_balances_27 : decode cX3_balances 27 = .ok (.iadd, 1) := by decide +kernel
theorem dX3_balances_28 : decode cX3_balances 28 = .ok (.istore_n 1, 1) := by decide +kernel
theorem dX3_balances_29 : decode cX3_balances 29 = .ok (.iinc 2 1, 3) := by decide +kernel
theorem dX3_balances_32 : decode cX3_balances 32 = .ok (.goto (-28), 3) := by decide +kernel
theorem dX3_balances_35 : decode cX3_balances 35 = .ok (.iload_n 1, 1) := by decide +kernel
theorem dX3_balances_36 : decode cX3_balances 36 = .ok (.ireturn, 1) := by decide +kernel
theorem dX3_hour_0 : decode cX3_hour 0 = .ok (.aload_n 0, 1) := by decide +kernel
theorem dX3_hour_1 : decode cX3_hour 1 = .ok (.getfield 38, 3) := by decide +kernel
theorem dX3_hour_4 : decode cX3_hour 4 = .ok (.ireturn, 1) := by decide +kernel
theorem dX3_isIn_0 : decode cX3_isIn 0 = .ok (.iload_n 0, 1) := by decide +kernel
theorem dX3_isIn_1 : decode cX3_isIn 1 = .ok (.ifCond .lt 12, 3) := by decide +kernel
theorem dX3_isIn_4 : decode cX3_isIn 4 = .ok (.iload_n 0, 1) := by decide +kernel
theorem dX3_isIn_5 : decode cX3_isIn 5 = .ok (.iload_n 1, 1) := by decide +kernel
theorem dX3_isIn_6 : decode cX3_isIn 6 = .ok (.if_icmp .ge 7, 3) := by decide +kernel
theorem dX3_isIn_9 : decode cX3_isIn 9 = .ok (.iconst 1, 1) := by decide +kernel
theorem dX3_isIn_10 : decode cX3_isIn 10 = .ok (.goto 4, 3) := by decide +kernel
theorem dX3_isIn_13 : decode cX3_isIn 13 = .ok (.iconst 0, 1) := by decide +kernel
theorem dX3_isIn_14 : decode cX3_isIn 14 = .ok (.ireturn, 1) := by decide +kernel
theorem dX3_isInOrNone_0 : decode cX3_isInOrNone 0 = .ok (.iload_n 0, 1) := by decide +kernel
theorem dX3_isInOrNone_1 : decode cX3_isInOrNone 1 = .ok (.iconst (-1), 1) := by decide +kernel
theorem dX3_isInOrNone_2 : decode cX3_isInOrNone 2 = .ok (.if_icmp .eq 11, 3) := by decide +kernel
theorem dX3_isInOrNone_5 : decode cX3_isInOrNone 5 = .ok (.iload_n 0, 1) := by decide +kernel
theorem dX3_isInOrNone_6 : decode cX3_isInOrNone 6 = .ok (.iload_n 1, 1) := by decide +kernel
theorem dX3_isInOrNone_7 : decode cX3_isInOrNone 7 = .ok (.invokestatic 66, 3) := by decide +kernel
theorem dX3_isInOrNone_10 : decode cX3_isInOrNone 10 = .ok (.ifCond .eq 7, 3) := by decide +kernel
theorem dX3_isInOrNone_13 : decode cX3_isInOrNone 13 = .ok (.iconst 1, 1) := by decide +kernel
theorem dX3_isInOrNone_14 : decode cX3_isInOrNone 14 = .ok (.goto 4, 3) := by decide +kernel
theorem dX3_isInOrNone_17 : decode cX3_isInOrNone 17 = .ok (.iconst 0, 1) := by decide +kernel
theorem dX3_isInOrNone_18 : decode cX3_isInOrNone 18 = .ok (.ireturn, 1) := by decide +kernel
theorem dX3_isCalendarHour_0 : decode cX3_isCalendarHour 0 = .ok (.iload_n 0, 1) := by decide +kernel
theorem dX3_isCalendarHour_1 : decode cX3_isCalendarHour 1 = .ok (.ifCond .lt 14, 3) := by decide +kernel
theorem dX3_isCalendarHour_4 : decode cX3_isCalendarHour 4 = .ok (.iload_n 0, 1) := by decide +kernel
theorem dX3_isCalendarHour_5 : decode cX3_isCalendarHour 5 = .ok (.sipush 1003, 3) := by decide +kernel
theorem dX3_isCalendarHour_8 : decode cX3_isCalendarHour 8 = .ok (.if_icmp .gt 7, 3) := by decide +kernel
theorem dX3_isCalendarHour_11 : decode cX3_isCalendarHour 11 = .ok (.iconst 1, 1) := by decide +kernel
theorem dX3_isCalendarHour_12 : decode cX3_isCalendarHour 12 = .ok (.goto 4, 3) := by decide +kernel
theorem dX3_isCalendarHour_15 : decode cX3_isCalendarHour 15 = .ok (.iconst 0, 1) := by decide +kernel
theorem dX3_isCalendarHour_16 : decode cX3_isCalendarHour 16 = .ok (.ireturn, 1) := by decide +kernel
theorem dX3_howMany_0 : decode cX3_howMany 0 = .ok (.iload_n 0, 1) := by decide +kernel
theorem dX3_howMany_1 : decode cX3_howMany 1 = .ok (.tableswitch 34 0 2 #[27, 29, 31], 27) := by decide +kernel
theorem dX3_howMany_28 : decode cX3_howMany 28 = .ok (.iconst 4, 1) := by decide +kernel
theorem dX3_howMany_29 : decode cX3_howMany 29 = .ok (.ireturn, 1) := by decide +kernel
theorem dX3_howMany_30 : decode cX3_howMany 30 = .ok (.iconst 4, 1) := by decide +kernel
theorem dX3_howMany_31 : decode cX3_howMany 31 = .ok (.ireturn, 1) := by decide +kernel
theorem dX3_howMany_32 : decode cX3_howMany 32 = .ok (.bipush 6, 2) := by decide +kernel
theorem dX3_howMany_34 : decode cX3_howMany 34 = .ok (.ireturn, 1) := by decide +kernel
theorem dX3_howMany_35 : decode cX3_howMany 35 = .ok (.iconst 4, 1) := by decide +kernel
theorem dX3_howMany_36 : decode cX3_howMany 36 = .ok (.ireturn, 1) := by decide +kernel
theorem dX3_interpreterAt_0 : decode cX3_interpreterAt 0 = .ok (.iload_n 1, 1) := by decide +kernel
theorem dX3_interpreterAt_1 : decode cX3_interpreterAt 1 = .ok (.ifCond .lt 21, 3) := by decide +kernel
theorem dX3_interpreterAt_4 : decode cX3_interpreterAt 4 = .ok (.iload_n 1, 1) := by decide +kernel
theorem dX3_interpreterAt_5 : decode cX3_interpreterAt 5 = .ok (.aload_n 0, 1) := by decide +kernel
theorem dX3_interpreterAt_6 : decode cX3_interpreterAt 6 = .ok (.getfield 11, 3) := by decide +kernel
theorem dX3_interpreterAt_9 : decode cX3_interpreterAt 9 = .ok (.arraylength, 1) := by decide +kernel
theorem dX3_interpreterAt_10 : decode cX3_interpreterAt 10 = .ok (.if_icmp .ge 12, 3) := by decide +kernel
theorem dX3_interpreterAt_13 : decode cX3_interpreterAt 13 = .ok (.aload_n 0, 1) := by decide +kernel
theorem dX3_interpreterAt_14 : decode cX3_interpreterAt 14 = .ok (.getfield 11, 3) := by decide +kernel
theorem dX3_interpreterAt_17 : decode cX3_interpreterAt 17 = .ok (.iload_n 1, 1) := by decide +kernel
theorem dX3_interpreterAt_18 : decode cX3_interpreterAt 18 = .ok (.aaload, 1) := by decide +kernel
theorem dX3_interpreterAt_19 : decode cX3_interpreterAt 19 = .ok (.goto 4, 3) := by decide +kernel
theorem dX3_interpreterAt_22 : decode cX3_interpreterAt 22 = .ok (.aconst_null, 1) := by decide +kernel
theorem dX3_interpreterAt_23 : decode cX3_interpreterAt 23 = .ok (.areturn, 1) := by decide +kernel
theorem dX3_matterAt_0 : decode cX3_matterAt 0 = .ok (.iload_n 1, 1) := by decide +kernel
theorem dX3_matterAt_1 : decode cX3_matterAt 1 = .ok (.ifCond .lt 29, 3) := by decide +kernel
theorem dX3_matterAt_4 : decode cX3_matterAt 4 = .ok (.iload_n 1, 1) := by decide +kernel
theorem dX3_matterAt_5 : decode cX3_matterAt 5 = .ok (.aload_n 0, 1) := by decide +kernel
theorem dX3_matterAt_6 : decode cX3_matterAt 6 = .ok (.getfield 31, 3) := by decide +kernel
theorem dX3_matterAt_9 : decode cX3_matterAt 9 = .ok (.if_icmp .ge 21, 3) := by decide +kernel
theorem dX3_matterAt_12 : decode cX3_matterAt 12 = .ok (.iload_n 1, 1) := by decide +kernel
theorem dX3_matterAt_13 : decode cX3_matterAt 13 = .ok (.aload_n 0, 1) := by decide +kernel
theorem dX3_matterAt_14 : decode cX3_matterAt 14 = .ok (.getfield 21, 3) := by decide +kernel
theorem dX3_matterAt_17 : decode cX3_matterAt 17 = .ok (.arraylength, 1) := by decide +kernel
theorem dX3_matterAt_18 : decode cX3_matterAt 18 = .ok (.if_icmp .ge 12, 3) := by decide +kernel
theorem dX3_matterAt_21 : decode cX3_matterAt 21 = .ok (.aload_n 0, 1) := by decide +kernel
theorem dX3_matterAt_22 : decode cX3_matterAt 22 = .ok (.getfield 21, 3) := by decide +kernel
theorem dX3_matterAt_25 : decode cX3_matterAt 25 = .ok (.iload_n 1, 1) := by decide +kernel
theorem dX3_matterAt_26 : decode cX3_matterAt 26 = .ok (.aaload, 1) := by decide +kernel
theorem dX3_matterAt_27 : decode cX3_matterAt 27 = .ok (.goto 4, 3) := by decide +kernel
theorem dX3_matterAt_30 : decode cX3_matterAt 30 = .ok (.aconst_null, 1) := by decide +kernel
theorem dX3_matterAt_31 : decode cX3_matterAt 31 = .ok (.areturn, 1) := by decide +kernel
theorem dX3_hearingAt_0 : decode cX3_hearingAt 0 = .ok (.iload_n 1, 1) := by decide +kernel
theorem dX3_hearingAt_1 : decode cX3_hearingAt 1 = .ok (.ifCond .lt 29, 3) := by decide +kernel
theorem dX3_hearingAt_4 : decode cX3_hearingAt 4 = .ok (.iload_n 1, 1) := by decide +kernel
theorem dX3_hearingAt_5 : decode cX3_hearingAt 5 = .ok (.aload_n 0, 1) := by decide +kernel
theorem dX3_hearingAt_6 : decode cX3_hearingAt 6 = .ok (.getfield 35, 3) := by decide +kernel
theorem dX3_hearingAt_9 : decode cX3_hearingAt 9 = .ok (.if_icmp .ge 21, 3) := by decide +kernel
theorem dX3_hearingAt_12 : decode cX3_hearingAt 12 = .ok (.iload_n 1, 1) := by decide +kernel
theorem dX3_hearingAt_13 : decode cX3_hearingAt 13 = .ok (.aload_n 0, 1) := by decide +kernel
theorem dX3_hearingAt_14 : decode cX3_hearingAt 14 = .ok (.getfield 27, 3) := by decide +kernel
theorem dX3_hearingAt_17 : decode cX3_hearingAt 17 = .ok (.arraylength, 1) := by decide +kernel
theorem dX3_hearingAt_18 : decode cX3_hearingAt 18 = .ok (.if_icmp .ge 12, 3) := by decide +kernel
theorem dX3_hearingAt_21 : decode cX3_hearingAt 21 = .ok (.aload_n 0, 1) := by decide +kernel
theorem dX3_hearingAt_22 : decode cX3_hearingAt 22 = .ok (.getfield 27, 3) := by decide +kernel
theorem dX3_hearingAt_25 : decode cX3_hearingAt 25 = .ok (.iload_n 1, 1) := by decide +kernel
theorem dX3_hearingAt_26 : decode cX3_hearingAt 26 = .ok (.aaload, 1) := by decide +kernel
theorem dX3_hearingAt_27 : decode cX3_hearingAt 27 = .ok (.goto 4, 3) := by decide +kernel
theorem dX3_hearingAt_30 : decode cX3_hearingAt 30 = .ok (.aconst_null, 1) := by decide +kernel
theorem dX3_hearingAt_31 : decode cX3_hearingAt 31 = .ok (.areturn, 1) := by decide +kernel
theorem dX3_isToBegin_0 : decode cX3_isToBegin 0 = .ok (.aload_n 1, 1) := by decide +kernel
theorem dX3_isToBegin_1 : decode cX3_isToBegin 1 = .ok (.getfield 178, 3) := by decide +kernel
theorem dX3_isToBegin_4 : decode cX3_isToBegin 4 = .ok (.ifCond .ne 18, 3) := by decide +kernel
theorem dX3_isToBegin_7 : decode cX3_isToBegin 7 = .ok (.aload_n 1, 1) := by decide +kernel
theorem dX3_isToBegin_8 : decode cX3_isToBegin 8 = .ok (.getfield 189, 3) := by decide +kernel
theorem dX3_isToBegin_11 : decode cX3_isToBegin 11 = .ok (.aload_n 0, 1) := by decide +kernel
theorem dX3_isToBegin_12 : decode cX3_isToBegin 12 = .ok (.getfield 38, 3) := by decide +kernel
theorem dX3_isToBegin_15 : decode cX3_isToBegin 15 = .ok (.if_icmp .le 7, 3) := by decide +kernel
theorem dX3_isToBegin_18 : decode cX3_isToBegin 18 = .ok (.iconst 1, 1) := by decide +kernel
theorem dX3_isToBegin_19 : decode cX3_isToBegin 19 = .ok (.goto 4, 3) := by decide +kernel
theorem dX3_isToBegin_22 : decode cX3_isToBegin 22 = .ok (.iconst 0, 1) := by decide +kernel
theorem dX3_isToBegin_23 : decode cX3_isToBegin 23 = .ok (.ireturn, 1) := by decide +kernel
theorem dX3_isAsNeeded_0 : decode cX3_isAsNeeded 0 = .ok (.aload_n 0, 1) := by decide +kernel
theorem dX3_isAsNeeded_1 : decode cX3_isAsNeeded 1 = .ok (.iload_n 2, 1) := by decide +kernel
theorem dX3_isAsNeeded_2 : decode cX3_isAsNeeded 2 = .ok (.invokevirtual 42, 3) := by decide +kernel
theorem dX3_isAsNeeded_5 : decode cX3_isAsNeeded 5 = .ok (.astore_n 3, 1) := by decide +kernel
theorem dX3_isAsNeeded_6 : decode cX3_isAsNeeded 6 = .ok (.aload_n 1, 1) := by decide +kernel
theorem dX3_isAsNeeded_7 : decode cX3_isAsNeeded 7 = .ok (.getfield 233, 3) := by decide +kernel
theorem dX3_isAsNeeded_10 : decode cX3_isAsNeeded 10 = .ok (.iconst (-1), 1) := by decide +kernel
theorem dX3_isAsNeeded_11 : decode cX3_isAsNeeded 11 = .ok (.if_icmp .eq 7, 3) := by decide +kernel
theorem dX3_isAsNeeded_14 : decode cX3_isAsNeeded 14 = .ok (.aload_n 3, 1) := by decide +kernel
theorem dX3_isAsNeeded_15 : decode cX3_isAsNeeded 15 = .ok (.ifnonnull 21, 3) := by decide +kernel
theorem dX3_isAsNeeded_18 : decode cX3_isAsNeeded 18 = .ok (.aload_n 1, 1) := by decide +kernel
theorem dX3_isAsNeeded_19 : decode cX3_isAsNeeded 19 = .ok (.getfield 233, 3) := by decide +kernel
theorem dX3_isAsNeeded_22 : decode cX3_isAsNeeded 22 = .ok (.iconst (-1), 1) := by decide +kernel
theorem dX3_isAsNeeded_23 : decode cX3_isAsNeeded 23 = .ok (.if_icmp .ne 11, 3) := by decide +kernel
theorem dX3_isAsNeeded_26 : decode cX3_isAsNeeded 26 = .ok (.aload_n 3, 1) := by decide +kernel
theorem dX3_isAsNeeded_27 : decode cX3_isAsNeeded 27 = .ok (.ifnonnull 7, 3) := by decide +kernel
theorem dX3_isAsNeeded_30 : decode cX3_isAsNeeded 30 = .ok (.iconst 1, 1) := by decide +kernel
theorem dX3_isAsNeeded_31 : decode cX3_isAsNeeded 31 = .ok (.goto 4, 3) := by decide +kernel
theorem dX3_isAsNeeded_34 : decode cX3_isAsNeeded 34 = .ok (.iconst 0, 1) := by decide +kernel
theorem dX3_isAsNeeded_35 : decode cX3_isAsNeeded 35 = .ok (.ireturn, 1) := by decide +kernel
theorem dX3_isAsNeeded_36 : decode cX3_isAsNeeded 36 = .ok (.aload_n 3, 1) := by decide +kernel
theorem dX3_isAsNeeded_37 : decode cX3_isAsNeeded 37 = .ok (.aload_n 1, 1) := by decide +kernel
theorem dX3_isAsNeeded_38 : decode cX3_isAsNeeded 38 = .ok (.getfield 233, 3) := by decide +kernel
theorem dX3_isAsNeeded_41 : decode cX3_isAsNeeded 41 = .ok (.invokevirtual 257, 3) := by decide +kernel
theorem dX3_isAsNeeded_44 : decode cX3_isAsNeeded 44 = .ok (.ireturn, 1) := by decide +kernel
theorem dX3_clashReason_0 : decode cX3_clashReason 0 = .ok (.iconst 0, 1) := by decide +kernel
theorem dX3_clashReason_1 : decode cX3_clashReason 1 = .ok (.istore 7, 2) := by decide +kernel
theorem dX3_clashReason_3 : decode cX3_clashReason 3 = .ok (.iconst 0, 1) := by decide +kernel
theorem dX3_clashReason_4 : decode cX3_clashReason 4 = .ok (.istore 8, 2) := by decide +kernel
theorem dX3_clashReason_6 : decode cX3_clashReason 6 = .ok (.iload 8, 2) := by decide +kernel
theorem dX3_clashReason_8 : decode cX3_clashReason 8 = .ok (.aload_n 0, 1) := by decide +kernel
theorem dX3_clashReason_9 : decode cX3_clashReason 9 = .ok (.getfield 35, 3) := by decide +kernel
theorem dX3_clashReason_12 : decode cX3_clashReason 12 = .ok (.if_icmp .ge 72, 3) := by decide +kernel
theorem dX3_clashReason_15 : decode cX3_clashReason 15 = .ok (.aload_n 0, 1) := by decide +kernel
theorem dX3_clashReason_16 : decode cX3_clashReason 16 = .ok (.iload 8, 2) := by decide +kernel
theorem dX3_clashReason_18 : decode cX3_clashReason 18 = .ok (.invokevirtual 149, 3) := by decide +kernel
theorem dX3_clashReason_21 : decode cX3_clashReason 21 = .ok (.astore 9, 2) := by decide +kernel
theorem dX3_clashReason_23 : decode cX3_clashReason 23 = .ok (.aload 9, 2) := by decide +kernel
theorem dX3_clashReason_25 : decode cX3_clashReason 25 = .ok (.ifnull 53, 3) := by decide +kernel
theorem dX3_clashReason_28 : decode cX3_clashReason 28 = .ok (.aload 9, 2) := by decide +kernel
theorem dX3_clashReason_30 : decode cX3_clashReason 30 = .ok (.aload_n 1, 1) := by decide +kernel
theorem dX3_clashReason_31 : decode cX3_clashReason 31 = .ok (.if_acmp .eq 47, 3) := by decide +kernel
theorem dX3_clashReason_34 : decode cX3_clashReason 34 = .ok (.aload 9, 2) := by decide +kernel
theorem dX3_clashReason_36 : decode cX3_clashReason 36 = .ok (.iload 5, 2) := by decide +kernel
theorem dX3_clashReason_38 : decode cX3_clashReason 38 = .ok (.iload 6, 2) := by decide +kernel
theorem dX3_clashReason_40 : decode cX3_clashReason 40 = .ok (.invokevirtual 218, 3) := by decide +kernel
theorem dX3_clashReason_43 : decode cX3_clashReason 43 = .ok (.ifCond .eq 35, 3) := by decide +kernel
theorem dX3_clashReason_46 : decode cX3_clashReason 46 = .ok (.aload 9, 2) := by decide +kernel
theorem dX3_clashReason_48 : decode cX3_clashReason 48 = .ok (.aload_n 2, 1) := by decide +kernel
theorem dX3_clashReason_49 : decode cX3_clashReason 49 = .ok (.iload_n 3, 1) := by decide +kernel
theorem dX3_clashReason_50 : decode cX3_clashReason 50 = .ok (.iload 4, 2) := by decide +kernel
theorem dX3_clashReason_52 : decode cX3_clashReason 52 = .ok (.invokevirtual 260, 3) := by decide +kernel
theorem dX3_clashReason_55 : decode cX3_clashReason 55 = .ok (.istore 10, 2) := by decide +kernel
theorem dX3_clashReason_57 : decode cX3_clashReason 57 = .ok (.iload 10, 2) := by decide +kernel
theorem dX3_clashReason_59 : decode cX3_clashReason 59 = .ok (.ifCond .eq 19, 3) := by decide +kernel
theorem dX3_clashReason_62 : decode cX3_clashReason 62 = .ok (.iload 7, 2) := by decide +kernel
theorem dX3_clashReason_64 : decode cX3_clashReason 64 = .ok (.ifCond .eq 10, 3) := by decide +kernel
theorem dX3_clashReason_67 : decode cX3_clashReason 67 = .ok (.iload 10, 2) := by decide +kernel
theorem dX3_clashReason_69 : decode cX3_clashReason 69 = .ok (.iload 7, 2) := by decide +kernel
theorem dX3_clashReason_71 : decode cX3_clashReason 71 = .ok (.if_icmp .ge 7, 3) := by decide +kernel
theorem dX3_clashReason_74 : decode cX3_clashReason 74 = .ok (.iload 10, 2) := by decide +kernel
theorem dX3_clashReason_76 : decode cX3_clashReason 76 = .ok (.istore 7, 2) := by decide +kernel
theorem dX3_clashReason_78 : decode cX3_clashReason 78 = .ok (.iinc 8 1, 3) := by decide +kernel
theorem dX3_clashReason_81 : decode cX3_clashReason 81 = .ok (.goto (-75), 3) := by decide +kernel
theorem dX3_clashReason_84 : decode cX3_clashReason 84 = .ok (.iload 7, 2) := by decide +kernel
theorem dX3_clashReason_86 : decode cX3_clashReason 86 = .ok (.ireturn, 1) := by decide +kernel
theorem dX3_put_0 : decode cX3_put 0 = .ok (.aload_n 1, 1) := by decide +kernel
theorem dX3_put_1 : decode cX3_put 1 = .ok (.iload_n 2, 1) := by decide +kernel
theorem dX3_put_2 : decode cX3_put 2 = .ok (.iload_n 3, 1) := by decide +kernel
theorem dX3_put_3 : decode cX3_put 3 = .ok (.iload 4, 2) := by decide +kernel
theorem dX3_put_5 : decode cX3_put 5 = .ok (.invokevirtual 264, 3) := by decide +kernel
theorem dX3_put_8 : decode cX3_put 8 = .ok (.aload_n 0, 1) := by decide +kernel
theorem dX3_put_9 : decode cX3_put 9 = .ok (.iload_n 3, 1) := by decide +kernel
theorem dX3_put_10 : decode cX3_put 10 = .ok (.invokevirtual 42, 3) := by decide +kernel
theorem dX3_put_13 : decode cX3_put 13 = .ok (.astore 5, 2) := by decide +kernel
theorem dX3_put_15 : decode cX3_put 15 = .ok (.iconst 0, 1) := by decide +kernel
theorem dX3_put_16 : decode cX3_put 16 = .ok (.istore 6, 2) := by decide +kernel
theorem dX3_put_18 : decode cX3_put 18 = .ok (.iload 6, 2) := by decide +kernel
theorem dX3_put_20 : decode cX3_put 20 = .ok (.aload_n 1, 1) := by decide +kernel
theorem dX3_put_21 : decode cX3_put 21 = .ok (.getfield 167, 3) := by decide +kernel
theorem dX3_put_24 : decode cX3_put 24 = .ok (.if_icmp .ge 53, 3) := by decide +kernel
theorem dX3_put_27 : decode cX3_put 27 = .ok (.iload 6, 2) := by decide +kernel
theorem dX3_put_29 : decode cX3_put 29 = .ok (.aload_n 1, 1) := by decide +kernel
theorem dX3_put_30 : decode cX3_put 30 = .ok (.getfield 268, 3) := by decide +kernel
theorem dX3_put_33 : decode cX3_put 33 = .ok (.arraylength, 1) := by decide +kernel
theorem dX3_put_34 : decode cX3_put 34 = .ok (.if_icmp .ge 43, 3) := by decide +kernel
theorem dX3_put_37 : decode cX3_put 37 = .ok (.aload_n 1, 1) := by decide +kernel
theorem dX3_put_38 : decode cX3_put 38 = .ok (.getfield 268, 3) := by decide +kernel
theorem dX3_put_41 : decode cX3_put 41 = .ok (.iload 6, 2) := by decide +kernel
theorem dX3_put_43 : decode cX3_put 43 = .ok (.aload 5, 2) := by decide +kernel
theorem dX3_put_45 : decode cX3_put 45 = .ok (.ifnonnull 7, 3) := by decide +kernel
theorem dX3_put_48 : decode cX3_put 48 = .ok (.iconst 0, 1) := by decide +kernel
theorem dX3_put_49 : decode cX3_put 49 = .ok (.goto 21, 3) := by decide +kernel
theorem dX3_put_52 : decode cX3_put 52 = .ok (.aload 5, 2) := by decide +kernel
theorem dX3_put_54 : decode cX3_put 54 = .ok (.iload 4, 2) := by decide +kernel
theorem dX3_put_56 : decode cX3_put 56 = .ok (.iload 6, 2) := by decide +kernel
theorem dX3_put_58 : decode cX3_put 58 = .ok (.iadd, 1) := by decide +kernel
theorem dX3_put_59 : decode cX3_put 59 = .ok (.aload_n 0, 1) := by decide +kernel
theorem dX3_put_60 : decode cX3_put 60 = .ok (.getfield 38, 3) := by decide +kernel
theorem dX3_put_63 : decode cX3_put 63 = .ok (.aload_n 1, 1) := by decide +kernel
theorem dX3_put_64 : decode cX3_put 64 = .ok (.getfield 161, 3) := by decide +kernel
theorem dX3_put_67 : decode cX3_put 67 = .ok (.invokevirtual 272, 3) := by decide +kernel
theorem dX3_put_70 : decode cX3_put 70 = .ok (.iastore, 1) := by decide +kernel
theorem dX3_put_71 : decode cX3_put 71 = .ok (.iinc 6 1, 3) := by decide +kernel
theorem dX3_put_74 : decode cX3_put 74 = .ok (.goto (-56), 3) := by decide +kernel
theorem dX3_put_77 : decode cX3_put 77 = .ok (.aload_n 1, 1) := by decide +kernel
theorem dX3_put_78 : decode cX3_put 78 = .ok (.getfield 161, 3) := by decide +kernel
theorem dX3_put_81 : decode cX3_put 81 = .ok (.dup, 1) := by decide +kernel
theorem dX3_put_82 : decode cX3_put 82 = .ok (.getfield 85, 3) := by decide +kernel
theorem dX3_put_85 : decode cX3_put 85 = .ok (.aload_n 1, 1) := by decide +kernel
theorem dX3_put_86 : decode cX3_put 86 = .ok (.invokevirtual 248, 3) := by decide +kernel
theorem dX3_put_89 : decode cX3_put 89 = .ok (.isub, 1) := by decide +kernel
theorem dX3_put_90 : decode cX3_put 90 = .ok (.putfield 85, 3) := by decide +kernel
theorem dX3_put_93 : decode cX3_put 93 = .ok (.return_, 1) := by decide +kernel
theorem dX3_leave_0 : decode cX3_leave 0 = .ok (.aload_n 1, 1) := by decide +kernel
theorem dX3_leave_1 : decode cX3_leave 1 = .ok (.getfield 189, 3) := by decide +kernel
theorem dX3_leave_4 : decode cX3_leave 4 = .ok (.aload_n 0, 1) := by decide +kernel
theorem dX3_leave_5 : decode cX3_leave 5 = .ok (.getfield 38, 3) := by decide +kernel
theorem dX3_leave_8 : decode cX3_leave 8 = .ok (.isub, 1) := by decide +kernel
theorem dX3_leave_9 : decode cX3_leave 9 = .ok (.bipush 8, 2) := by decide +kernel
theorem dX3_leave_11 : decode cX3_leave 11 = .ok (.if_icmp .lt 20, 3) := by decide +kernel
theorem dX3_leave_14 : decode cX3_leave 14 = .ok (.aload_n 1, 1) := by decide +kernel
theorem dX3_leave_15 : decode cX3_leave 15 = .ok (.getfield 161, 3) := by decide +kernel
theorem dX3_leave_18 : decode cX3_leave 18 = .ok (.dup, 1) := by decide +kernel
theorem dX3_leave_19 : decode cX3_leave 19 = .ok (.getfield 85, 3) := by decide +kernel
theorem dX3_leave_22 : decode cX3_leave 22 = .ok (.aload_n 1, 1) := by decide +kernel
theorem dX3_leave_23 : decode cX3_leave 23 = .ok (.invokevirtual 248, 3) := by decide +kernel
theorem dX3_leave_26 : decode cX3_leave 26 = .ok (.iadd, 1) := by decide +kernel
theorem dX3_leave_27 : decode cX3_leave 27 = .ok (.putfield 85, 3) := by decide +kernel
theorem dX3_leave_30 : decode cX3_leave 30 = .ok (.return_, 1) := by decide +kernel
theorem dX3_leave_31 : decode cX3_leave 31 = .ok (.aload_n 0, 1) := by decide +kernel
theorem dX3_leave_32 : decode cX3_leave 32 = .ok (.aload_n 1, 1) := by decide +kernel
theorem dX3_leave_33 : decode cX3_leave 33 = .ok (.getfield 242, 3) := by decide +kernel
theorem dX3_leave_36 : decode cX3_leave 36 = .ok (.invokevirtual 42, 3) := by decide +kernel
theorem dX3_leave_39 : decode cX3_leave 39 = .ok (.astore_n 2, 1) := by decide +kernel
theorem dX3_leave_40 : decode cX3_leave 40 = .ok (.iconst 0, 1) := by decide +kernel
theorem dX3_leave_41 : decode cX3_leave 41 = .ok (.istore_n 3, 1) := by decide +kernel
theorem dX3_leave_42 : decode cX3_leave 42 = .ok (.aload_n 2, 1) := by decide +kernel
theorem dX3_leave_43 : decode cX3_leave 43 = .ok (.ifnull 46, 3) := by decide +kernel
theorem dX3_leave_46 : decode cX3_leave 46 = .ok (.iload_n 3, 1) := by decide +kernel
theorem dX3_leave_47 : decode cX3_leave 47 = .ok (.aload_n 1, 1) := by decide +kernel
theorem dX3_leave_48 : decode cX3_leave 48 = .ok (.getfield 167, 3) := by decide +kernel
theorem dX3_leave_51 : decode cX3_leave 51 = .ok (.if_icmp .ge 38, 3) := by decide +kernel
theorem dX3_leave_54 : decode cX3_leave 54 = .ok (.iload_n 3, 1) := by decide +kernel
theorem dX3_leave_55 : decode cX3_leave 55 = .ok (.aload_n 1, 1) := by decide +kernel
theorem dX3_leave_56 : decode cX3_leave 56 = .ok (.getfield 268, 3) := by decide +kernel
theorem dX3_leave_59 : decode cX3_leave 59 = .ok (.arraylength, 1) := by decide +kernel
theorem dX3_leave_60 : decode cX3_leave 60 = .ok (.if_icmp .ge 29, 3) := by decide +kernel
theorem dX3_leave_63 : decode cX3_leave 63 = .ok (.aload_n 2, 1) := by decide +kernel
theorem dX3_leave_64 : decode cX3_leave 64 = .ok (.aload_n 1, 1) := by decide +kernel
theorem dX3_leave_65 : decode cX3_leave 65 = .ok (.getfield 189, 3) := by decide +kernel
theorem dX3_leave_68 : decode cX3_leave 68 = .ok (.iload_n 3, 1) := by decide +kernel
theorem dX3_leave_69 : decode cX3_leave 69 = .ok (.iadd, 1) := by decide +kernel
theorem dX3_leave_70 : decode cX3_leave 70 = .ok (.aload_n 1, 1) := by decide +kernel
theorem dX3_leave_71 : decode cX3_leave 71 = .ok (.getfield 161, 3) := by decide +kernel
theorem dX3_leave_74 : decode cX3_leave 74 = .ok (.aload_n 1, 1) := by decide +kernel
theorem dX3_leave_75 : decode cX3_leave 75 = .ok (.getfield 268, 3) := by decide +kernel
theorem dX3_leave_78 : decode cX3_leave 78 = .ok (.iload_n 3, 1) := by decide +kernel
theorem dX3_leave_79 : decode cX3_leave 79 = .ok (.iaload, 1) := by decide +kernel
theorem dX3_leave_80 : decode cX3_leave 80 = .ok (.invokevirtual 276, 3) := by decide +kernel
theorem dX3_leave_83 : decode cX3_leave 83 = .ok (.iinc 3 1, 3) := by decide +kernel
theorem dX3_leave_86 : decode cX3_leave 86 = .ok (.goto (-44), 3) := by decide +kernel
theorem dX3_leave_89 : decode cX3_leave 89 = .ok (.return_, 1) := by decide +kernel
theorem dX3_dropAllOf_0 : decode cX3_dropAllOf 0 = .ok (.iconst 0, 1) := by decide +kernel
theorem dX3_dropAllOf_1 : decode cX3_dropAllOf 1 = .ok (.istore_n 2, 1) := by decide +kernel
theorem dX3_dropAllOf_2 : decode cX3_dropAllOf 2 = .ok (.iconst 0, 1) := by decide +kernel
theorem dX3_dropAllOf_3 : decode cX3_dropAllOf 3 = .ok (.istore_n 3, 1) := by decide +kernel
theorem dX3_dropAllOf_4 : decode cX3_dropAllOf 4 = .ok (.iload_n 3, 1) := by decide +kernel
theorem dX3_dropAllOf_5 : decode cX3_dropAllOf 5 = .ok (.aload_n 0, 1) := by decide +kernel
theorem dX3_dropAllOf_6 : decode cX3_dropAllOf 6 = .ok (.getfield 35, 3) := by decide +kernel
theorem dX3_dropAllOf_9 : decode cX3_dropAllOf 9 = .ok (.if_icmp .ge 62, 3) := by decide +kernel
theorem dX3_dropAllOf_12 : decode cX3_dropAllOf 12 = .ok (.aload_n 0, 1) := by decide +kernel
theorem dX3_dropAllOf_13 : decode cX3_dropAllOf 13 = .ok (.iload_n 3, 1) := by decide +kernel
theorem dX3_dropAllOf_14 : decode cX3_dropAllOf 14 = .ok (.invokevirtual 149, 3) := by decide +kernel
theorem dX3_dropAllOf_17 : decode cX3_dropAllOf 17 = .ok (.astore 4, 2) := by decide +kernel
theorem dX3_dropAllOf_19 : decode cX3_dropAllOf 19 = .ok (.aload 4, 2) := by decide +kernel
theorem dX3_dropAllOf_21 : decode cX3_dropAllOf 21 = .ok (.ifnull 44, 3) := by decide +kernel
theorem dX3_dropAllOf_24 : decode cX3_dropAllOf 24 = .ok (.aload 4, 2) := by decide +kernel
theorem dX3_dropAllOf_26 : decode cX3_dropAllOf 26 = .ok (.getfield 161, 3) := by decide +kernel
theorem dX3_dropAllOf_29 : decode cX3_dropAllOf 29 = .ok (.aload_n 1, 1) := by decide +kernel
theorem dX3_dropAllOf_30 : decode cX3_dropAllOf 30 = .ok (.if_acmp .ne 35, 3) := by decide +kernel
theorem dX3_dropAllOf_33 : decode cX3_dropAllOf 33 = .ok (.aload 4, 2) := by decide +kernel
theorem dX3_dropAllOf_35 : decode cX3_dropAllOf 35 = .ok (.getfield 178, 3) := by decide +kernel
theorem dX3_dropAllOf_38 : decode cX3_dropAllOf 38 = .ok (.ifCond .ne 27, 3) := by decide +kernel
theorem dX3_dropAllOf_41 : decode cX3_dropAllOf 41 = .ok (.aload_n 0, 1) := by decide +kernel
theorem dX3_dropAllOf_42 : decode cX3_dropAllOf 42 = .ok (.aload 4, 2) := by decide +kernel
theorem dX3_dropAllOf_44 : decode cX3_dropAllOf 44 = .ok (.invokevirtual 157, 3) := by decide +kernel
theorem dX3_dropAllOf_47 : decode cX3_dropAllOf 47 = .ok (.ifCond .eq 9, 3) := by decide +kernel
theorem dX3_dropAllOf_50 : decode cX3_dropAllOf 50 = .ok (.aload_n 0, 1) := by decide +kernel
theorem dX3_dropAllOf_51 : decode cX3_dropAllOf 51 = .ok (.aload 4, 2) := by decide +kernel
theorem dX3_dropAllOf_53 : decode cX3_dropAllOf 53 = .ok (.invokevirtual 170, 3) := by decide +kernel
theorem dX3_dropAllOf_56 : decode cX3_dropAllOf 56 = .ok (.aload 4, 2) := by decide +kernel
theorem dX3_dropAllOf_58 : decode cX3_dropAllOf 58 = .ok (.iconst 3, 1) := by decide +kernel
theorem dX3_dropAllOf_59 : decode cX3_dropAllOf 59 = .ok (.putfield 178, 3) := by decide +kernel
theorem dX3_dropAllOf_62 : decode cX3_dropAllOf 62 = .ok (.iinc 2 1, 3) := by decide +kernel
theorem dX3_dropAllOf_65 : decode cX3_dropAllOf 65 = .ok (.iinc 3 1, 3) := by decide +kernel
theorem dX3_dropAllOf_68 : decode cX3_dropAllOf 68 = .ok (.goto (-64), 3) := by decide +kernel
theorem dX3_dropAllOf_71 : decode cX3_dropAllOf 71 = .ok (.iload_n 2, 1) := by decide +kernel
theorem dX3_dropAllOf_72 : decode cX3_dropAllOf 72 = .ok (.ireturn, 1) := by decide +kernel
theorem dX3_endHearings_0 : decode cX3_endHearings 0 = .ok (.iconst 0, 1) := by decide +kernel
theorem dX3_endHearings_1 : decode cX3_endHearings 1 = .ok (.istore_n 1, 1) := by decide +kernel
theorem dX3_endHearings_2 : decode cX3_endHearings 2 = .ok (.iconst 0, 1) := by decide +kernel
theorem dX3_endHearings_3 : decode cX3_endHearings 3 = .ok (.istore_n 2, 1) := by decide +kernel
theorem dX3_endHearings_4 : decode cX3_endHearings 4 = .ok (.iload_n 2, 1) := by decide +kernel
theorem dX3_endHearings_5 : decode cX3_endHearings 5 = .ok (.aload_n 0, 1) := by decide +kernel
theorem dX3_endHearings_6 : decode cX3_endHearings 6 = .ok (.getfield 35, 3) := by decide +kernel
theorem dX3_endHearings_9 : decode cX3_endHearings 9 = .ok (.if_icmp .ge 57, 3) := by decide +kernel
theorem dX3_endHearings_12 : decode cX3_endHearings 12 = .ok (.aload_n 0, 1) := by decide +kernel
theorem dX3_endHearings_13 : decode cX3_endHearings 13 = .ok (.iload_n 2, 1) := by decide +kernel
theorem dX3_endHearings_14 : decode cX3_endHearings 14 = .ok (.invokevirtual 149, 3) := by decide +kernel
theorem dX3_endHearings_17 : decode cX3_endHearings 17 = .ok (.astore_n 3, 1) := by decide +kernel
theorem dX3_endHearings_18 : decode cX3_endHearings 18 = .ok (.aload_n 3, 1) := by decide +kernel
theorem dX3_endHearings_19 : decode cX3_endHearings 19 = .ok (.ifnull 41, 3) := by decide +kernel
theorem dX3_endHearings_22 : decode cX3_endHearings 22 = .ok (.aload_n 3, 1) := by decide +kernel
theorem dX3_endHearings_23 : decode cX3_endHearings 23 = .ok (.getfield 178, 3) := by decide +kernel
theorem dX3_endHearings_26 : decode cX3_endHearings 26 = .ok (.ifCond .ne 34, 3) := by decide +kernel
theorem dX3_endHearings_29 : decode cX3_endHearings 29 = .ok (.aload_n 3, 1) := by decide +kernel
theorem dX3_endHearings_30 : decode cX3_endHearings 30 = .ok (.getfield 189, 3) := by decide +kernel
theorem dX3_endHearings_33 : decode cX3_endHearings 33 = .ok (.aload_n 3, 1) := by decide +kernel
theorem dX3_endHearings_34 : decode cX3_endHearings 34 = .ok (.getfield 167, 3) := by decide +kernel
theorem dX3_endHearings_37 : decode cX3_endHearings 37 = .ok (.iadd, 1) := by decide +kernel
theorem dX3_endHearings_38 : decode cX3_endHearings 38 = .ok (.aload_n 0, 1) := by decide +kernel
theorem dX3_endHearings_39 : decode cX3_endHearings 39 = .ok (.getfield 38, 3) := by decide +kernel
theorem dX3_endHearings_42 : decode cX3_endHearings 42 = .ok (.if_icmp .gt 18, 3) := by decide +kernel
theorem dX3_endHearings_45 : decode cX3_endHearings 45 = .ok (.aload_n 3, 1) := by decide +kernel
theorem dX3_endHearings_46 : decode cX3_endHearings 46 = .ok (.invokevirtual 279, 3) := by decide +kernel
theorem dX3_endHearings_49 : decode cX3_endHearings 49 = .ok (.aload_n 3, 1) := by decide +kernel
theorem dX3_endHearings_50 : decode cX3_endHearings 50 = .ok (.getfield 178, 3) := by decide +kernel
theorem dX3_endHearings_53 : decode cX3_endHearings 53 = .ok (.iconst 1, 1) := by decide +kernel
theorem dX3_endHearings_54 : decode cX3_endHearings 54 = .ok (.if_icmp .ne 6, 3) := by decide +kernel
theorem dX3_endHearings_57 : decode cX3_endHearings 57 = .ok (.iinc 1 1, 3) := by decide +kernel
theorem dX3_endHearings_60 : decode cX3_endHearings 60 = .ok (.iinc 2 1, 3) := by decide +kernel
theorem dX3_endHearings_63 : decode cX3_endHearings 63 = .ok (.goto (-59), 3) := by decide +kernel
theorem dX3_endHearings_66 : decode cX3_endHearings 66 = .ok (.iload_n 1, 1) := by decide +kernel
theorem dX3_endHearings_67 : decode cX3_endHearings 67 = .ok (.ireturn, 1) := by decide +kernel
theorem dX3_runTerms_0 : decode cX3_runTerms 0 = .ok (.iconst 0, 1) := by decide +kernel
theorem dX3_runTerms_1 : decode cX3_runTerms 1 = .ok (.istore_n 1, 1) := by decide +kernel
theorem dX3_runTerms_2 : decode cX3_runTerms 2 = .ok (.iload_n 1, 1) := by decide +kernel
theorem dX3_runTerms_3 : decode cX3_runTerms 3 = .ok (.aload_n 0, 1) := by decide +kernel
theorem dX3_runTerms_4 : decode cX3_runTerms 4 = .ok (.getfield 31, 3) := by decide +kernel
theorem dX3_runTerms_7 : decode cX3_runTerms 7 = .ok (.if_icmp .ge 27, 3) := by decide +kernel
theorem dX3_runTerms_10 : decode cX3_runTerms 10 = .ok (.aload_n 0, 1) := by decide +kernel
theorem dX3_runTerms_11 : decode cX3_runTerms 11 = .ok (.iload_n 1, 1) := by decide +kernel
theorem dX3_runTerms_12 : decode cX3_runTerms 12 = .ok (.invokevirtual 95, 3) := by decide +kernel
theorem dX3_runTerms_15 : decode cX3_runTerms 15 = .ok (.astore_n 2, 1) := by decide +kernel
theorem dX3_runTerms_16 : decode cX3_runTerms 16 = .ok (.aload_n 2, 1) := by decide +kernel
theorem dX3_runTerms_17 : decode cX3_runTerms 17 = .ok (.ifnull 11, 3) := by decide +kernel
theorem dX3_runTerms_20 : decode cX3_runTerms 20 = .ok (.aload_n 2, 1) := by decide +kernel
theorem dX3_runTerms_21 : decode cX3_runTerms 21 = .ok (.aload_n 0, 1) := by decide +kernel
theorem dX3_runTerms_22 : decode cX3_runTerms 22 = .ok (.getfield 38, 3) := by decide +kernel
theorem dX3_runTerms_25 : decode cX3_runTerms 25 = .ok (.invokevirtual 281, 3) := by decide +kernel
theorem dX3_runTerms_28 : decode cX3_runTerms 28 = .ok (.iinc 1 1, 3) := by decide +kernel
theorem dX3_runTerms_31 : decode cX3_runTerms 31 = .ok (.goto (-29), 3) := by decide +kernel
theorem dX3_runTerms_34 : decode cX3_runTerms 34 = .ok (.return_, 1) := by decide +kernel
theorem dX3_feeFor_0 : decode cX3_feeFor 0 = .ok (.aload_n 1, 1) := by decide +kernel
theorem dX3_feeFor_1 : decode cX3_feeFor 1 = .ok (.getfield 227, 3) := by decide +kernel
theorem dX3_feeFor_4 : decode cX3_feeFor 4 = .ok (.ifCond .lt 31, 3) := by decide +kernel
theorem dX3_feeFor_7 : decode cX3_feeFor 7 = .ok (.aload_n 1, 1) := by decide +kernel
theorem dX3_feeFor_8 : decode cX3_feeFor 8 = .ok (.getfield 227, 3) := by decide +kernel
theorem dX3_feeFor_11 : decode cX3_feeFor 11 = .ok (.aload_n 0, 1) := by decide +kernel
theorem dX3_feeFor_12 : decode cX3_feeFor 12 = .ok (.getfield 15, 3) := by decide +kernel
theorem dX3_feeFor_15 : decode cX3_feeFor 15 = .ok (.arraylength, 1) := by decide +kernel
theorem dX3_feeFor_16 : decode cX3_feeFor 16 = .ok (.if_icmp .ge 19, 3) := by decide +kernel
theorem dX3_feeFor_19 : decode cX3_feeFor 19 = .ok (.aload_n 0, 1) := by decide +kernel
theorem dX3_feeFor_20 : decode cX3_feeFor 20 = .ok (.getfield 15, 3) := by decide +kernel
theorem dX3_feeFor_23 : decode cX3_feeFor 23 = .ok (.aload_n 1, 1) := by decide +kernel
theorem dX3_feeFor_24 : decode cX3_feeFor 24 = .ok (.getfield 227, 3) := by decide +kernel
theorem dX3_feeFor_27 : decode cX3_feeFor 27 = .ok (.baload, 1) := by decide +kernel
theorem dX3_feeFor_28 : decode cX3_feeFor 28 = .ok (.ifCond .eq 7, 3) := by decide +kernel
theorem dX3_feeFor_31 : decode cX3_feeFor 31 = .ok (.iconst 1, 1) := by decide +kernel
theorem dX3_feeFor_32 : decode cX3_feeFor 32 = .ok (.goto 4, 3) := by decide +kernel
theorem dX3_feeFor_35 : decode cX3_feeFor 35 = .ok (.iconst 0, 1) := by decide +kernel
theorem dX3_feeFor_36 : decode cX3_feeFor 36 = .ok (.istore_n 3, 1) := by decide +kernel
theorem dX3_feeFor_37 : decode cX3_feeFor 37 = .ok (.iload_n 3, 1) := by decide +kernel
theorem dX3_feeFor_38 : decode cX3_feeFor 38 = .ok (.ifCond .eq 7, 3) := by decide +kernel
theorem dX3_feeFor_41 : decode cX3_feeFor 41 = .ok (.iconst 0, 1) := by decide +kernel
theorem dX3_feeFor_42 : decode cX3_feeFor 42 = .ok (.goto 4, 3) := by decide +kernel
theorem dX3_feeFor_45 : decode cX3_feeFor 45 = .ok (.iload_n 2, 1) := by decide +kernel
theorem dX3_feeFor_46 : decode cX3_feeFor 46 = .ok (.ireturn, 1) := by decide +kernel
theorem dX3_paidHoursOf_0 : decode cX3_paidHoursOf 0 = .ok (.iconst 0, 1) := by decide +kernel
theorem dX3_paidHoursOf_1 : decode cX3_paidHoursOf 1 = .ok (.istore_n 2, 1) := by decide +kernel
theorem dX3_paidHoursOf_2 : decode cX3_paidHoursOf 2 = .ok (.iconst 0, 1) := by decide +kernel
theorem dX3_paidHoursOf_3 : decode cX3_paidHoursOf 3 = .ok (.istore_n 3, 1) := by decide +kernel
theorem dX3_paidHoursOf_4 : decode cX3_paidHoursOf 4 = .ok (.iload_n 3, 1) := by decide +kernel
theorem dX3_paidHoursOf_5 : decode cX3_paidHoursOf 5 = .ok (.aload_n 0, 1) := by decide +kernel
theorem dX3_paidHoursOf_6 : decode cX3_paidHoursOf 6 = .ok (.getfield 11, 3) := by decide +kernel
theorem dX3_paidHoursOf_9 : decode cX3_paidHoursOf 9 = .ok (.arraylength, 1) := by decide +kernel
theorem dX3_paidHoursOf_10 : decode cX3_paidHoursOf 10 = .ok (.if_icmp .ge 34, 3) := by decide +kernel
theorem dX3_paidHoursOf_13 : decode cX3_paidHoursOf 13 = .ok (.aload_n 0, 1) := by decide +kernel
theorem dX3_paidHoursOf_14 : decode cX3_paidHoursOf 14 = .ok (.iload_n 3, 1) := by decide +kernel
theorem dX3_paidHoursOf_15 : decode cX3_paidHoursOf 15 = .ok (.invokevirtual 42, 3) := by decide +kernel
theorem dX3_paidHoursOf_18 : decode cX3_paidHoursOf 18 = .ok (.astore 4, 2) := by decide +kernel
theorem dX3_paidHoursOf_20 : decode cX3_paidHoursOf 20 = .ok (.aload 4, 2) := by decide +kernel
theorem dX3_paidHoursOf_22 : decode cX3_paidHoursOf 22 = .ok (.ifnull 16, 3) := by decide +kernel
theorem dX3_paidHoursOf_25 : decode cX3_paidHoursOf 25 = .ok (.iload_n 2, 1) := by decide +kernel
theorem dX3_paidHoursOf_26 : decode cX3_paidHoursOf 26 = .ok (.aload 4, 2) := by decide +kernel
theorem dX3_paidHoursOf_28 : decode cX3_paidHoursOf 28 = .ok (.aload_n 1, 1) := by decide +kernel
theorem dX3_paidHoursOf_29 : decode cX3_paidHoursOf 29 = .ok (.aload_n 0, 1) := by decide +kernel
theorem dX3_paidHoursOf_30 : decode cX3_paidHoursOf 30 = .ok (.getfield 38, 3) := by decide +kernel
theorem dX3_paidHoursOf_33 : decode cX3_paidHoursOf 33 = .ok (.invokevirtual 284, 3) := by decide +kernel
theorem dX3_paidHoursOf_36 : decode cX3_paidHoursOf 36 = .ok (.iadd, 1) := by decide +kernel
theorem dX3_paidHoursOf_37 : decode cX3_paidHoursOf 37 = .ok (.istore_n 2, 1) := by decide +kernel
theorem dX3_paidHoursOf_38 : decode cX3_paidHoursOf 38 = .ok (.iinc 3 1, 3) := by decide +kernel
theorem dX3_paidHoursOf_41 : decode cX3_paidHoursOf 41 = .ok (.goto (-37), 3) := by decide +kernel
theorem dX3_paidHoursOf_44 : decode cX3_paidHoursOf 44 = .ok (.iload_n 2, 1) := by decide +kernel
theorem dX3_paidHoursOf_45 : decode cX3_paidHoursOf 45 = .ok (.ireturn, 1) := by decide +kernel
theorem dX4_init_0 : decode cX4_init 0 = .ok (.aload_n 0, 1) := by decide +kernel
theorem dX4_init_1 : decode cX4_init 1 = .ok (.invokespecial 1, 3) := by decide +kernel
theorem dX4_init_4 : decode cX4_init 4 = .ok (.aload_n 0, 1) := by decide +kernel
theorem dX4_init_5 : decode cX4_init 5 = .ok (.iconst 4, 1) := by decide +kernel
theorem dX4_init_6 : decode cX4_init 6 = .ok (.newarray .int, 2) := by decide +kernel
theorem dX4_init_8 : decode cX4_init 8 = .ok (.putfield 7, 3) := by decide +kernel
theorem dX4_init_11 : decode cX4_init 11 = .ok (.aload_n 0, 1) := by decide +kernel
theorem dX4_init_12 : decode cX4_init 12 = .ok (.iconst 4, 1) := by decide +kernel
theorem dX4_init_13 : decode cX4_init 13 = .ok (.newarray .int, 2) := by decide +kernel
theorem dX4_init_15 : decode cX4_init 15 = .ok (.putfield 13, 3) := by decide +kernel
theorem dX4_init_18 : decode cX4_init 18 = .ok (.aload_n 0, 1) := by decide +kernel
theorem dX4_init_19 : decode cX4_init 19 = .ok (.bipush 6, 2) := by decide +kernel
theorem dX4_init_21 : decode cX4_init 21 = .ok (.newarray .boolean, 2) := by decide +kernel
theorem dX4_init_23 : decode cX4_init 23 = .ok (.putfield 16, 3) := by decide +kernel
theorem dX4_init_26 : decode cX4_init 26 = .ok (.aload_n 0, 1) := by decide +kernel
theorem dX4_init_27 : decode cX4_init 27 = .ok (.bipush 12, 2) := by decide +kernel
theorem dX4_init_29 : decode cX4_init 29 = .ok (.newarray .int, 2) := by decide +kernel
theorem dX4_init_31 : decode cX4_init 31 = .ok (.putfield 20, 3) := by decide +kernel
theorem dX4_init_34 : decode cX4_init 34 = .ok (.aload_n 0, 1) := by decide +kernel
theorem dX4_init_35 : decode cX4_init 35 = .ok (.bipush 12, 2) := by decide +kernel
theorem dX4_init_37 : decode cX4_init 37 = .ok (.newarray .int, 2) := by decide +kernel
theorem dX4_init_39 : decode cX4_init 39 = .ok (.putfield 23, 3) := by decide +kernel
theorem dX4_init_42 : decode cX4_init 42 = .ok (.aload_n 0, 1) := by decide +kernel
theorem dX4_init_43 : decode cX4_init 43 = .ok (.bipush 12, 2) := by decide +kernel
theorem dX4_init_45 : decode cX4_init 45 = .ok (.newarray .int, 2) := by decide +kernel
theorem dX4_init_47 : decode cX4_init 47 = .ok (.putfield 26, 3) := by decide +kernel
theorem dX4_init_50 : decode cX4_init 50 = .ok (.aload_n 0, 1) := by decide +kernel
theorem dX4_init_51 : decode cX4_init 51 = .ok (.bipush 12, 2) := by decide +kernel
theorem dX4_init_53 : decode cX4_init 53 = .ok (.newarray .int, 2) := by decide +kernel
theorem dX4_init_55 : decode cX4_init 55 = .ok (.putfield 29, 3) := by decide +kernel
theorem dX4_init_58 : decode cX4_init 58 = .ok (.aload_n 0, 1) := by decide +kernel
theorem dX4_init_59 : decode cX4_init 59 = .ok (.bipush 12, 2) := by decide +kernel
theorem dX4_init_61 : decode cX4_init 61 = .ok (.newarray .int, 2) := by decide +kernel
theorem dX4_init_63 : decode cX4_init 63 = .ok (.putfield 32, 3) := by decide +kernel
theorem dX4_init_66 : decode cX4_init 66 = .ok (.aload_n 0, 1) := by decide +kernel
theorem dX4_init_67 : decode cX4_init 67 = .ok (.bipush 12, 2) := by decide +kernel
theorem dX4_init_69 : decode cX4_init 69 = .ok (.newarray .int, 2) := by decide +kernel
theorem dX4_init_71 : decode cX4_init 71 = .ok (.putfield 35, 3) := by decide +kernel
theorem dX4_init_74 : decode cX4_init 74 = .ok (.aload_n 0, 1) := by decide +kernel
theorem dX4_init_75 : decode cX4_init 75 = .ok (.bipush 12, 2) := by decide +kernel
theorem dX4_init_77 : decode cX4_init 77 = .ok (.newarray .int, 2) := by decide +kernel
theorem dX4_init_79 : decode cX4_init 79 = .ok (.putfield 38, 3) := by decide +kernel
theorem dX4_init_82 : decode cX4_init 82 = .ok (.aload_n 0, 1) := by decide +kernel
theorem dX4_init_83 : decode cX4_init 83 = .ok (.bipush 24, 2) := by decide +kernel
theorem dX4_init_85 : decode cX4_init 85 = .ok (.newarray .int, 2) := by decide +kernel
theorem dX4_init_87 : decode cX4_init 87 = .ok (.putfield 41, 3) := by decide +kernel
theorem dX4_init_90 : decode cX4_init 90 = .ok (.aload_n 0, 1) := by decide +kernel
theorem dX4_init_91 : decode cX4_init 91 = .ok (.bipush 24, 2) := by decide +kernel
theorem dX4_init_93 : decode cX4_init 93 = .ok (.newarray .int, 2) := by decide +kernel
theorem dX4_init_95 : decode cX4_init 95 = .ok (.putfield 44, 3) := by decide +kernel
theorem dX4_init_98 : decode cX4_init 98 = .ok (.aload_n 0, 1) := by decide +kernel
theorem dX4_init_99 : decode cX4_init 99 = .ok (.bipush 24, 2) := by decide +kernel
theorem dX4_init_101 : decode cX4_init 101 = .ok (.newarray .int, 2) := by decide +kernel
theorem dX4_init_103 : decode cX4_init 103 = .ok (.putfield 47, 3) := by decide +kernel
theorem dX4_init_106 : decode cX4_init 106 = .ok (.aload_n 0, 1) := by decide +kernel
theorem dX4_init_107 : decode cX4_init 107 = .ok (.bipush 24, 2) := by decide +kernel
theorem dX4_init_109 : decode cX4_init 109 = .ok (.newarray .int, 2) := by decide +kernel
theorem dX4_init_111 : decode cX4_init 111 = .ok (.putfield 50, 3) := by decide +kernel
theorem dX4_init_114 : decode cX4_init 114 = .ok (.aload_n 0, 1) := by decide +kernel
theorem dX4_init_115 : decode cX4_init 115 = .ok (.bipush 24, 2) := by decide +kernel
theorem dX4_init_117 : decode cX4_init 117 = .ok (.newarray .int, 2) := by decide +kernel
theorem dX4_init_119 : decode cX4_init 119 = .ok (.putfield 53, 3) := by decide +kernel
theorem dX4_init_122 : decode cX4_init 122 = .ok (.aload_n 0, 1) := by decide +kernel
theorem dX4_init_123 : decode cX4_init 123 = .ok (.bipush 24, 2) := by decide +kernel
theorem dX4_init_125 : decode cX4_init 125 = .ok (.newarray .int, 2) := by decide +kernel
theorem dX4_init_127 : decode cX4_init 127 = .ok (.putfield 56, 3) := by decide +kernel
theorem dX4_init_130 : decode cX4_init 130 = .ok (.aload_n 0, 1) := by decide +kernel
theorem dX4_init_131 : decode cX4_init 131 = .ok (.bipush 24, 2) := by decide +kernel
theorem dX4_init_133 : decode cX4_init 133 = .ok (.newarray .int, 2) := by decide +kernel
theorem dX4_init_135 : decode cX4_init 135 = .ok (.putfield 59, 3) := by decide +kernel
theorem dX4_init_138 : decode cX4_init 138 = .ok (.aload_n 0, 1) := by decide +kernel
theorem dX4_init_139 : decode cX4_init 139 = .ok (.bipush 96, 2) := by decide +kernel
theorem dX4_init_141 : decode cX4_init 141 = .ok (.newarray .int, 2) := by decide +kernel
theorem dX4_init_143 : decode cX4_init 143 = .ok (.putfield 62, 3) := by decide +kernel
theorem dX4_init_146 : decode cX4_init 146 = .ok (.aload_n 0, 1) := by decide +kernel
theorem dX4_init_147 : decode cX4_init 147 = .ok (.sipush 4016, 3) := by decide +kernel
theorem dX4_init_150 : decode cX4_init 150 = .ok (.newarray .int, 2) := by decide +kernel
theorem dX4_init_152 : decode cX4_init 152 = .ok (.putfield 65, 3) := by decide +kernel
theorem dX4_init_155 : decode cX4_init 155 = .ok (.aload_n 0, 1) := by decide +kernel
theorem dX4_init_156 : decode cX4_init 156 = .ok (.sipush 4016, 3) := by decide +kernel
theorem dX4_init_159 : decode cX4_init 159 = .ok (.newarray .int, 2) := by decide +kernel
theorem dX4_init_161 : decode cX4_init 161 = .ok (.putfield 68, 3) := by decide +kernel
theorem dX4_init_164 : decode cX4_init 164 = .ok (.iconst 0, 1) := by decide +kernel
theorem dX4_init_165 : decode cX4_init 165 = .ok (.istore_n 1, 1) := by decide +kernel
theorem dX4_init_166 : decode cX4_init 166 = .ok (.iload_n 1, 1) := by decide +kernel
theorem dX4_init_167 : decode cX4_init 167 = .ok (.iconst 4, 1) := by decide +kernel
theorem dX4_init_168 : decode cX4_init 168 = .ok (.if_icmp .ge 17, 3) := by decide +kernel
theorem dX4_init_171 : decode cX4_init 171 = .ok (.aload_n 0, 1) := by decide +kernel
theorem dX4_init_172 : decode cX4_init 172 = .ok (.getfield 13, 3) := by decide +kernel
theorem dX4_init_175 : decode cX4_init 175 = .ok (.iload_n 1, 1) := by decide +kernel
theorem dX4_init_176 : decode cX4_init 176 = .ok (.bipush 10, 2) := by decide +kernel
theorem dX4_init_178 : decode cX4_init 178 = .ok (.iastore, 1) := by decide +kernel
theorem dX4_init_179 : decode cX4_init 179 = .ok (.iinc 1 1, 3) := by decide +kernel
theorem dX4_init_182 : decode cX4_init 182 = .ok (.goto (-16), 3) := by decide +kernel
theorem dX4_init_185 : decode cX4_init 185 = .ok (.return_, 1) := by decide +kernel
theorem dX4_thrown_0 : decode cX4_thrown 0 = .ok (.aload_n 0, 1) := by decide +kernel
theorem dX4_thrown_1 : decode cX4_thrown 1 = .ok (.getfield 71, 3) := by decide +kernel
theorem dX4_thrown_4 : decode cX4_thrown 4 = .ok (.ireturn, 1) := by decide +kernel
theorem dX4_in_0 : decode cX4_in 0 = .ok (.iload_n 0, 1) := by decide +kernel
theorem dX4_in_1 : decode cX4_in 1 = .ok (.iload_n 1, 1) := by decide +kernel
theorem dX4_in_2 : decode cX4_in 2 = .ok (.if_icmp .lt 12, 3) := by decide +kernel
theorem dX4_in_5 : decode cX4_in 5 = .ok (.iload_n 0, 1) := by decide +kernel
theorem dX4_in_6 : decode cX4_in 6 = .ok (.iload_n 2, 1) := by decide +kernel
theorem dX4_in_7 : decode cX4_in 7 = .ok (.if_icmp .gt 7, 3) := by decide +kernel
theorem dX4_in_10 : decode cX4_in 10 = .ok (.iconst 1, 1) := by decide +kernel
theorem dX4_in_11 : decode cX4_in 11 = .ok (.goto 4, 3) := by decide +kernel
theorem dX4_in_14 : decode cX4_in 14 = .ok (.iconst 0, 1) := by decide +kernel
theorem dX4_in_15 : decode cX4_in 15 = .ok (.ireturn, 1) := by decide +kernel
theorem dX4_isMatter_0 : decode cX4_isMatter 0 = .ok (.iload_n 1, 1) := by decide +kernel
theorem dX4_isMatter_1 : decode cX4_isMatter 1 = .ok (.iconst 0, 1) := by decide +kernel
theorem dX4_isMatter_2 : decode cX4_isMatter 2 = .ok (.aload_n 0, 1) := by decide +kernel
theorem dX4_isMatter_3 : decode cX4_isMatter 3 = .ok (.getfield 75, 3) := by decide +kernel
theorem dX4_isMatter_6 : decode cX4_isMatter 6 = .ok (.iconst 1, 1) := by decide +kernel
theorem dX4_isMatter_7 : decode cX4_isMatter 7 = .ok (.isub, 1) := by decide +kernel
theorem dX4_isMatter_8 : decode cX4_isMatter 8 = .ok (.invokestatic 78, 3) := by decide +kernel
theorem dX4_isMatter_11 : decode cX4_isMatter 11 = .ok (.ireturn, 1) := by decide +kernel
theorem dX4_isHearing_0 : decode cX4_isHearing 0 = .ok (.iload_n 1, 1) := by decide +kernel
theorem dX4_isHearing_1 : decode cX4_isHearing 1 = .ok (.iconst 0, 1) := by decide +kernel
theorem dX4_isHearing_2 : decode cX4_isHearing 2 = .ok (.aload_n 0, 1) := by decide +kernel
theorem dX4_isHearing_3 : decode cX4_isHearing 3 = .ok (.getfield 82, 3) := by decide +kernel
theorem dX4_isHearing_6 : decode cX4_isHearing 6 = .ok (.iconst 1, 1) := by decide +kernel
theorem dX4_isHearing_7 : decode cX4_isHearing 7 = .ok (.isub, 1) := by decide +kernel
theorem dX4_isHearing_8 : decode cX4_isHearing 8 = .ok (.invokestatic 78, 3) := by decide +kernel
theorem dX4_isHearing_11 : decode cX4_isHearing 11 = .ok (.ireturn, 1) := by decide +kernel
theorem dX4_isSpeaker_0 : decode cX4_isSpeaker 0 = .ok (.iload_n 0, 1) := by decide +kernel
theorem dX4_isSpeaker_1 : decode cX4_isSpeaker 1 = .ok (.iconst (-1), 1) := by decide +kernel
theorem dX4_isSpeaker_2 : decode cX4_isSpeaker 2 = .ok (.iconst 3, 1) := by decide +kernel
theorem dX4_isSpeaker_3 : decode cX4_isSpeaker 3 = .ok (.invokestatic 78, 3) := by decide +kernel
theorem dX4_isSpeaker_6 : decode cX4_isSpeaker 6 = .ok (.ireturn, 1) := by decide +kernel
theorem dX4_interpreter_0 : decode cX4_interpreter 0 = .ok (.aload_n 0, 1) := by decide +kernel
theorem dX4_interpreter_1 : decode cX4_interpreter 1 = .ok (.iload_n 1, 1) := by decide +kernel
theorem dX4_interpreter_2 : decode cX4_interpreter 2 = .ok (.iconst 0, 1) := by decide +kernel
theorem dX4_interpreter_3 : decode cX4_interpreter 3 = .ok (.iconst 3, 1) := by decide +kernel
theorem dX4_interpreter_4 : decode cX4_interpreter 4 = .ok (.invokestatic 78, 3) := by decide +kernel
theorem dX4_interpreter_7 : decode cX4_interpreter 7 = .ok (.ifCond .ne 7, 3) := by decide +kernel
theorem dX4_interpreter_10 : decode cX4_interpreter 10 = .ok (.iconst 1, 1) := by decide +kernel
theorem dX4_interpreter_11 : decode cX4_interpreter 11 = .ok (.goto 28, 3) := by decide +kernel
theorem dX4_interpreter_14 : decode cX4_interpreter 14 = .ok (.iload_n 2, 1) := by decide +kernel
theorem dX4_interpreter_15 : decode cX4_interpreter 15 = .ok (.iconst 0, 1) := by decide +kernel
theorem dX4_interpreter_16 : decode cX4_interpreter 16 = .ok (.bipush 15, 2) := by decide +kernel
theorem dX4_interpreter_18 : decode cX4_interpreter 18 = .ok (.invokestatic 78, 3) := by decide +kernel
theorem dX4_interpreter_21 : decode cX4_interpreter 21 = .ok (.ifCond .eq 13, 3) := by decide +kernel
theorem dX4_interpreter_24 : decode cX4_interpreter 24 = .ok (.iload_n 3, 1) := by decide +kernel
theorem dX4_interpreter_25 : decode cX4_interpreter 25 = .ok (.iconst 1, 1) := by decide +kernel
theorem dX4_interpreter_26 : decode cX4_interpreter 26 = .ok (.bipush 99, 2) := by decide +kernel
theorem dX4_interpreter_28 : decode cX4_interpreter 28 = .ok (.invokestatic 78, 3) := by decide +kernel
theorem dX4_interpreter_31 : decode cX4_interpreter 31 = .ok (.ifCond .ne 7, 3) := by decide +kernel
theorem dX4_interpreter_34 : decode cX4_interpreter 34 = .ok (.iconst 2, 1) := by decide +kernel
theorem dX4_interpreter_35 : decode cX4_interpreter 35 = .ok (.goto 4, 3) := by decide +kernel
theorem dX4_interpreter_38 : decode cX4_interpreter 38 = .ok (.iconst 0, 1) := by decide +kernel
theorem dX4_interpreter_39 : decode cX4_interpreter 39 = .ok (.putfield 71, 3) := by decide +kernel
theorem dX4_interpreter_42 : decode cX4_interpreter 42 = .ok (.aload_n 0, 1) := by decide +kernel
theorem dX4_interpreter_43 : decode cX4_interpreter 43 = .ok (.getfield 71, 3) := by decide +kernel
theorem dX4_interpreter_46 : decode cX4_interpreter 46 = .ok (.ifCond .le 5, 3) := by decide +kernel
theorem dX4_interpreter_49 : decode cX4_interpreter 49 = .ok (.iconst 0, 1) := by decide +kernel
theorem dX4_interpreter_50 : decode cX4_interpreter 50 = .ok (.ireturn, 1) := by decide +kernel
theorem dX4_interpreter_51 : decode cX4_interpreter 51 = .ok (.aload_n 0, 1) := by decide +kernel
theorem dX4_interpreter_52 : decode cX4_interpreter 52 = .ok (.getfield 13, 3) := by decide +kernel
theorem dX4_interpreter_55 : decode cX4_interpreter 55 = .ok (.iload_n 1, 1) := by decide +kernel
theorem dX4_interpreter_56 : decode cX4_interpreter 56 = .ok (.iaload, 1) := by decide +kernel
theorem dX4_interpreter_57 : decode cX4_interpreter 57 = .ok (.istore 4, 2) := by decide +kernel
theorem dX4_interpreter_59 : decode cX4_interpreter 59 = .ok (.aload_n 0, 1) := by decide +kernel
theorem dX4_interpreter_60 : decode cX4_interpreter 60 = .ok (.getfield 7, 3) := by decide +kernel
theorem dX4_interpreter_63 : decode cX4_interpreter 63 = .ok (.iload_n 1, 1) := by decide +kernel
theorem dX4_interpreter_64 : decode cX4_interpreter 64 = .ok (.iload_n 2, 1) := by decide +kernel
theorem dX4_interpreter_65 : decode cX4_interpreter 65 = .ok (.iastore, 1) := by decide +kernel
theorem dX4_interpreter_66 : decode cX4_interpreter 66 = .ok (.aload_n 0, 1) := by decide +kernel
theorem dX4_interpreter_67 : decode cX4_interpreter 67 = .ok (.getfield 13, 3) := by decide +kernel
theorem dX4_interpreter_70 : decode cX4_interpreter 70 = .ok (.iload_n 1, 1) := by decide +kernel
theorem dX4_interpreter_71 : decode cX4_interpreter 71 = .ok (.iload_n 3, 1) := by decide +kernel
theorem dX4_interpreter_72 : decode cX4_interpreter 72 = .ok (.iastore, 1) := by decide +kernel
theorem dX4_interpreter_73 : decode cX4_interpreter 73 = .ok (.iload 4, 2) := by decide +kernel
theorem dX4_interpreter_75 : decode cX4_interpreter 75 = .ok (.ireturn, 1) := by decide +kernel
theorem dX4_waive_0 : decode cX4_waive 0 = .ok (.aload_n 0, 1) := by decide +kernel
theorem dX4_waive_1 : decode cX4_waive 1 = .ok (.iload_n 1, 1) := by decide +kernel
theorem dX4_waive_2 : decode cX4_waive 2 = .ok (.iconst 0, 1) := by decide +kernel
theorem dX4_waive_3 : decode cX4_waive 3 = .ok (.iconst 5, 1) := by decide +kernel
theorem dX4_waive_4 : decode cX4_waive 4 = .ok (.invokestatic 78, 3) := by decide +kernel
theorem dX4_waive_7 : decode cX4_waive 7 = .ok (.ifCond .eq 7, 3) := by decide +kernel
theorem dX4_waive_10 : decode cX4_waive 10 = .ok (.iconst 0, 1) := by decide +kernel
theorem dX4_waive_11 : decode cX4_waive 11 = .ok (.goto 4, 3) := by decide +kernel
theorem dX4_waive_14 : decode cX4_waive 14 = .ok (.iconst 1, 1) := by decide +kernel
theorem dX4_waive_15 : decode cX4_waive 15 = .ok (.putfield 71, 3) := by decide +kernel
theorem dX4_waive_18 : decode cX4_waive 18 = .ok (.aload_n 0, 1) := by decide +kernel
theorem dX4_waive_19 : decode cX4_waive 19 = .ok (.getfield 71, 3) := by decide +kernel
theorem dX4_waive_22 : decode cX4_waive 22 = .ok (.ifCond .le 5, 3) := by decide +kernel
theorem dX4_waive_25 : decode cX4_waive 25 = .ok (.iconst 0, 1) := by decide +kernel
theorem dX4_waive_26 : decode cX4_waive 26 = .ok (.ireturn, 1) := by decide +kernel
theorem dX4_waive_27 : decode cX4_waive 27 = .ok (.aload_n 0, 1) := by decide +kernel
theorem dX4_waive_28 : decode cX4_waive 28 = .ok (.getfield 16, 3) := by decide +kernel
theorem dX4_waive_31 : decode cX4_waive 31 = .ok (.iload_n 1, 1) := by decide +kernel
theorem dX4_waive_32 : decode cX4_waive 32 = .ok (.baload, 1) := by decide +kernel
theorem dX4_waive_33 : decode cX4_waive 33 = .ok (.istore_n 3, 1) := by decide +kernel
theorem dX4_waive_34 : decode cX4_waive 34 = .ok (.aload_n 0, 1) := by decide +kernel
theorem dX4_waive_35 : decode cX4_waive 35 = .ok (.getfield 16, 3) := by decide +kernel
theorem dX4_waive_38 : decode cX4_waive 38 = .ok (.iload_n 1, 1) := by decide +kernel
theorem dX4_waive_39 : decode cX4_waive 39 = .ok (.iload_n 2, 1) := by decide +kernel
theorem dX4_waive_40 : decode cX4_waive 40 = .ok (.bastore, 1) := by decide +kernel
theorem dX4_waive_41 : decode cX4_waive 41 = .ok (.iload_n 3, 1) := by decide +kernel
theorem dX4_waive_42 : decode cX4_waive 42 = .ok (.ireturn, 1) := by decide +kernel
theorem dX4_file_0 : decode cX4_file 0 = .ok (.iload_n 1, 1) := by decide +kernel
theorem dX4_file_1 : decode cX4_file 1 = .ok (.iconst 0, 1) := by decide +kernel
theorem dX4_file_2 : decode cX4_file 2 = .ok (.iconst 3, 1) := by decide +kernel
theorem dX4_file_3 : decode cX4_file 3 = .ok (.invokestatic 78, 3) := by decide +kernel
theorem dX4_file_6 : decode cX4_file 6 = .ok (.ifCond .eq 35, 3) := by decide +kernel
theorem dX4_file_9 : decode cX4_file 9 = .ok (.iload_n 2, 1) := by decide +kernel
theorem dX4_file_10 : decode cX4_file 10 = .ok (.iconst 0, 1) := by decide +kernel
theorem dX4_file_11 : decode cX4_file 11 = .ok (.iconst 5, 1) := by decide +kernel
theorem dX4_file_12 : decode cX4_file 12 = .ok (.invokestatic 78, 3) := by decide +kernel
theorem dX4_file_15 : decode cX4_file 15 = .ok (.ifCond .eq 26, 3) := by decide +kernel
theorem dX4_file_18 : decode cX4_file 18 = .ok (.iload_n 3, 1) := by decide +kernel
theorem dX4_file_19 : decode cX4_file 19 = .ok (.iconst 0, 1) := by decide +kernel
theorem dX4_file_20 : decode cX4_file 20 = .ok (.iconst 5, 1) := by decide +kernel
theorem dX4_file_21 : decode cX4_file 21 = .ok (.invokestatic 78, 3) := by decide +kernel
theorem dX4_file_24 : decode cX4_file 24 = .ok (.ifCond .eq 17, 3) := by decide +kernel
theorem dX4_file_27 : decode cX4_file 27 = .ok (.iload 4, 2) := by decide +kernel
theorem dX4_file_29 : decode cX4_file 29 = .ok (.iconst (-1), 1) := by decide +kernel
theorem dX4_file_30 : decode cX4_file 30 = .ok (.iconst 3, 1) := by decide +kernel
theorem dX4_file_31 : decode cX4_file 31 = .ok (.invokestatic 78, 3) := by decide +kernel
theorem dX4_file_34 : decode cX4_file 34 = .ok (.ifCond .eq 7, 3) := by decide +kernel
theorem dX4_file_37 : decode cX4_file 37 = .ok (.iconst 1, 1) := by decide +kernel
theorem dX4_file_38 : decode cX4_file 38 = .ok (.goto 4, 3) := by decide +kernel
theorem dX4_file_41 : decode cX4_file 41 = .ok (.iconst 0, 1) := by decide +kernel
theorem dX4_file_42 : decode cX4_file 42 = .ok (.istore 5, 2) := by decide +kernel
theorem dX4_file_44 : decode cX4_file 44 = .ok (.aload_n 0, 1) := by decide +kernel
theorem dX4_file_45 : decode cX4_file 45 = .ok (.iload 5, 2) := by decide +kernel
theorem dX4_file_47 : decode cX4_file 47 = .ok (.ifCond .ne 7, 3) := by decide +kernel
theorem dX4_file_50 : decode cX4_file 50 = .ok (.iconst 1, 1) := by decide +kernel
theorem dX4_file_51 : decode cX4_file 51 = .ok (.goto 26, 3) := by decide +kernel
theorem dX4_file_54 : decode cX4_file 54 = .ok (.iload_n 2, 1) := by decide +kernel
theorem dX4_file_55 : decode cX4_file 55 = .ok (.iload_n 3, 1) := by decide +kernel
theorem dX4_file_56 : decode cX4_file 56 = .ok (.if_icmp .ne 7, 3) := by decide +kernel
theorem dX4_file_59 : decode cX4_file 59 = .ok (.iconst 2, 1) := by decide +kernel
theorem dX4_file_60 : decode cX4_file 60 = .ok (.goto 17, 3) := by decide +kernel
theorem dX4_file_63 : decode cX4_file 63 = .ok (.aload_n 0, 1) := by decide +kernel
theorem dX4_file_64 : decode cX4_file 64 = .ok (.getfield 75, 3) := by decide +kernel
theorem dX4_file_67 : decode cX4_file 67 = .ok (.bipush 12, 2) := by decide +kernel
theorem dX4_file_69 : decode cX4_file 69 = .ok (.if_icmp .ne 7, 3) := by decide +kernel
theorem dX4_file_72 : decode cX4_file 72 = .ok (.iconst 3, 1) := by decide +kernel
theorem dX4_file_73 : decode cX4_file 73 = .ok (.goto 4, 3) := by decide +kernel
theorem dX4_file_76 : decode cX4_file 76 = .ok (.iconst 0, 1) := by decide +kernel
theorem dX4_file_77 : decode cX4_file 77 = .ok (.putfield 71, 3) := by decide +kernel
theorem dX4_file_80 : decode cX4_file 80 = .ok (.aload_n 0, 1) := by decide +kernel
theorem dX4_file_81 : decode cX4_file 81 = .ok (.getfield 71, 3) := by decide +kernel
theorem dX4_file_84 : decode cX4_file 84 = .ok (.ifCond .le 5, 3) := by decide +kernel
theorem dX4_file_87 : decode cX4_file 87 = .ok (.iconst 0, 1) := by decide +kernel
theorem dX4_file_88 : decode cX4_file 88 = .ok (.ireturn, 1) := by decide +kernel
theorem dX4_file_89 : decode cX4_file 89 = .ok (.aload_n 0, 1) := by decide +kernel
theorem dX4_file_90 : decode cX4_file 90 = .ok (.getfield 23, 3) := by decide +kernel
theorem dX4_file_93 : decode cX4_file 93 = .ok (.aload_n 0, 1) := by decide +kernel
theorem dX4_file_94 : decode cX4_file 94 = .ok (.getfield 75, 3) := by decide +kernel
theorem dX4_file_97 : decode cX4_file 97 = .ok (.iload_n 1, 1) := by decide +kernel
theorem dX4_file_98 : decode cX4_file 98 = .ok (.iastore, 1) := by decide +kernel
theorem dX4_file_99 : decode cX4_file 99 = .ok (.aload_n 0, 1) := by decide +kernel
theorem dX4_file_100 : decode cX4_file 100 = .ok (.getfield 26, 3) := by decide +kernel
theorem dX4_file_103 : decode cX4_file 103 = .ok (.aload_n 0, 1) := by decide +kernel
theorem dX4_file_104 : decode cX4_file 104 = .ok (.getfield 75, 3) := by decide +kernel
theorem dX4_file_107 : decode cX4_file 107 = .ok (.iload_n 2, 1) := by decide +kernel
theorem dX4_file_108 : decode cX4_file 108 = .ok (.iastore, 1) := by decide +kernel
theorem dX4_file_109 : decode cX4_file 109 = .ok (.aload_n 0, 1) := by decide +kernel
theorem dX4_file_110 : decode cX4_file 110 = .ok (.getfield 29, 3) := by decide +kernel
theorem dX4_file_113 : decode cX4_file 113 = .ok (.aload_n 0, 1) := by decide +kernel
theorem dX4_file_114 : decode cX4_file 114 = .ok (.getfield 75, 3) := by decide +kernel
theorem dX4_file_117 : decode cX4_file 117 = .ok (.iload_n 3, 1) := by decide +kernel
theorem dX4_file_118 : decode cX4_file 118 = .ok (.iastore, 1) := by decide +kernel
theorem dX4_file_119 : decode cX4_file 119 = .ok (.aload_n 0, 1) := by decide +kernel
theorem dX4_file_120 : decode cX4_file 120 = .ok (.getfield 32, 3) := by decide +kernel
theorem dX4_file_123 : decode cX4_file 123 = .ok (.aload_n 0, 1) := by decide +kernel
theorem dX4_file_124 : decode cX4_file 124 = .ok (.getfield 75, 3) := by decide +kernel
theorem dX4_file_127 : decode cX4_file 127 = .ok (.iload 4, 2) := by decide +kernel
theorem dX4_file_129 : decode cX4_file 129 = .ok (.iastore, 1) := by decide +kernel
theorem dX4_file_130 : decode cX4_file 130 = .ok (.aload_n 0, 1) := by decide +kernel
theorem dX4_file_131 : decode cX4_file 131 = .ok (.getfield 35, 3) := by decide +kernel
theorem dX4_file_134 : decode cX4_file 134 = .ok (.aload_n 0, 1) := by decide +kernel
theorem dX4_file_135 : decode cX4_file 135 = .ok (.getfield 75, 3) := by decide +kernel
theorem dX4_file_138 : decode cX4_file 138 = .ok (.aload_n 0, 1) := by decide +kernel
theorem dX4_file_139 : decode cX4_file 139 = .ok (.getfield 16, 3) := by decide +kernel
theorem dX4_file_142 : decode cX4_file 142 = .ok (.iload_n 2, 1) := by decide +kernel
theorem dX4_file_143 : decode cX4_file 143 = .ok (.baload, 1) := by decide +kernel
theorem dX4_file_144 : decode cX4_file 144 = .ok (.ifCond .eq 7, 3) := by decide +kernel
theorem dX4_file_147 : decode cX4_file 147 = .ok (.iconst 0, 1) := by decide +kernel
theorem dX4_file_148 : decode cX4_file 148 = .ok (.goto 5, 3) := by decide +kernel
theorem dX4_file_151 : decode cX4_file 151 = .ok (.bipush (-50), 2) := by decide +kernel
theorem dX4_file_153 : decode cX4_file 153 = .ok (.iastore, 1) := by decide +kernel
theorem dX4_file_154 : decode cX4_file 154 = .ok (.aload_n 0, 1) := by decide +kernel
theorem dX4_file_155 : decode cX4_file 155 = .ok (.getfield 38, 3) := by decide +kernel
theorem dX4_file_158 : decode cX4_file 158 = .ok (.aload_n 0, 1) := by decide +kernel
theorem dX4_file_159 : decode cX4_file 159 = .ok (.getfield 75, 3) := by decide +kernel
theorem dX4_file_162 : decode cX4_file 162 = .ok (.aload_n 0, 1) := by decide +kernel
theorem dX4_file_163 : decode cX4_file 163 = .ok (.getfield 85, 3) := by decide +kernel
theorem dX4_file_166 : decode cX4_file 166 = .ok (.bipush 100, 2) := by decide +kernel
theorem dX4_file_168 : decode cX4_file 168 = .ok (.iadd, 1) := by decide +kernel
theorem dX4_file_169 : decode cX4_file 169 = .ok (.iastore, 1) := by decide +kernel
theorem dX4_file_170 : decode cX4_file 170 = .ok (.aload_n 0, 1) := by decide +kernel
theorem dX4_file_171 : decode cX4_file 171 = .ok (.dup, 1) := by decide +kernel
theorem dX4_file_172 : decode cX4_file 172 = .ok (.getfield 75, 3) := by decide +kernel
theorem dX4_file_175 : decode cX4_file 175 = .ok (.iconst 1, 1) := by decide +kernel
theorem dX4_file_176 : decode cX4_file 176 = .ok (.iadd, 1) := by decide +kernel
theorem dX4_file_177 : decode cX4_file 177 = .ok (.putfield 75, 3) := by decide +kernel
theorem dX4_file_180 : decode cX4_file 180 = .ok (.aload_n 0, 1) := by decide +kernel
theorem dX4_file_181 : decode cX4_file 181 = .ok (.getfield 75, 3) := by decide +kernel
theorem dX4_file_184 : decode cX4_file 184 = .ok (.iconst 1, 1) := by decide +kernel
theorem dX4_file_185 : decode cX4_file 185 = .ok (.isub, 1) := by decide +kernel
theorem dX4_file_186 : decode cX4_file 186 = .ok (.ireturn, 1) := by decide +kernel
theorem dX4_pay_0 : decode cX4_pay 0 = .ok (.aload_n 0, 1) := by decide +kernel
theorem dX4_pay_1 : decode cX4_pay 1 = .ok (.aload_n 0, 1) := by decide +kernel
theorem dX4_pay_2 : decode cX4_pay 2 = .ok (.iload_n 1, 1) := by decide +kernel
theorem dX4_pay_3 : decode cX4_pay 3 = .ok (.invokevirtual 88, 3) := by decide +kernel
theorem dX4_pay_6 : decode cX4_pay 6 = .ok (.ifCond .ne 7, 3) := by decide +kernel
theorem dX4_pay_9 : decode cX4_pay 9 = .ok (.iconst 1, 1) := by decide +kernel
theorem dX4_pay_10 : decode cX4_pay 10 = .ok (.goto 19, 3) := by decide +kernel
theorem dX4_pay_13 : decode cX4_pay 13 = .ok (.iload_n 2, 1) := by decide +kernel
theorem dX4_pay_14 : decode cX4_pay 14 = .ok (.iconst 1, 1) := by decide +kernel
theorem dX4_pay_15 : decode cX4_pay 15 = .ok (.sipush 9999, 3) := by decide +kernel
theorem dX4_pay_18 : decode cX4_pay 18 = .ok (.invokestatic 78, 3) := by decide +kernel
theorem dX4_pay_21 : decode cX4_pay 21 = .ok (.ifCond .ne 7, 3) := by decide +kernel
theorem dX4_pay_24 : decode cX4_pay 24 = .ok (.iconst 2, 1) := by decide +kernel
theorem dX4_pay_25 : decode cX4_pay 25 = .ok (.goto 4, 3) := by decide +kernel
theorem dX4_pay_28 : decode cX4_pay 28 = .ok (.iconst 0, 1) := by decide +kernel
theorem dX4_pay_29 : decode cX4_pay 29 = .ok (.putfield 71, 3) := by decide +kernel
theorem dX4_pay_32 : decode cX4_pay 32 = .ok (.aload_n 0, 1) := by decide +kernel
theorem dX4_pay_33 : decode cX4_pay 33 = .ok (.getfield 71, 3) := by decide +kernel
theorem dX4_pay_36 : decode cX4_pay 36 = .ok (.ifCond .le 5, 3) := by decide +kernel
theorem dX4_pay_39 : decode cX4_pay 39 = .ok (.iconst 0, 1) := by decide +kernel
theorem dX4_pay_40 : decode cX4_pay 40 = .ok (.ireturn, 1) := by decide +kernel
theorem dX4_pay_41 : decode cX4_pay 41 = .ok (.aload_n 0, 1) := by decide +kernel
theorem dX4_pay_42 : decode cX4_pay 42 = .ok (.getfield 35, 3) := by decide +kernel
theorem dX4_pay_45 : decode cX4_pay 45 = .ok (.iload_n 1, 1) := by decide +kernel
theorem dX4_pay_46 : decode cX4_pay 46 = .ok (.dup2, 1) := by decide +kernel
theorem dX4_pay_47 : decode cX4_pay 47 = .ok (.iaload, 1) := by decide +kernel
theorem dX4_pay_48 : decode cX4_pay 48 = .ok (.iload_n 2, 1) := by decide +kernel
theorem dX4_pay_49 : decode cX4_pay 49 = .ok (.iadd, 1) := by decide +kernel
theorem dX4_pay_50 : decode cX4_pay 50 = .ok (.iastore, 1) := by decide +kernel
theorem dX4_pay_51 : decode cX4_pay 51 = .ok (.aload_n 0, 1) := by decide +kernel
theorem dX4_pay_52 : decode cX4_pay 52 = .ok (.getfield 35, 3) := by decide +kernel
theorem dX4_pay_55 : decode cX4_pay 55 = .ok (.iload_n 1, 1) := by decide +kernel
theorem dX4_pay_56 : decode cX4_pay 56 = .ok (.iaload, 1) := by decide +kernel
theorem dX4_pay_57 : decode cX4_pay 57 = .ok (.ireturn, 1) := by decide +kernel
theorem dX4_leaves_0 : decode cX4_leaves 0 = .ok (.aload_n 0, 1) := by decide +kernel
theorem dX4_leaves_1 : decode cX4_leaves 1 = .ok (.getfield 44, 3) := by decide +kernel
theorem dX4_leaves_4 : decode cX4_leaves 4 = .ok (.iload_n 1, 1) := by decide +kernel
theorem dX4_leaves_5 : decode cX4_leaves 5 = .ok (.iaload, 1) := by decide +kernel
theorem dX4_leaves_6 : decode cX4_leaves 6 = .ok (.istore_n 2, 1) := by decide +kernel
theorem dX4_leaves_7 : decode cX4_leaves 7 = .ok (.iconst 0, 1) := by decide +kernel
theorem dX4_leaves_8 : decode cX4_leaves 8 = .ok (.istore_n 3, 1) := by decide +kernel
theorem dX4_leaves_9 : decode cX4_leaves 9 = .ok (.iload_n 3, 1) := by decide +kernel
theorem dX4_leaves_10 : decode cX4_leaves 10 = .ok (.aload_n 0, 1) := by decide +kernel
theorem dX4_leaves_11 : decode cX4_leaves 11 = .ok (.getfield 56, 3) := by decide +kernel
theorem dX4_leaves_14 : decode cX4_leaves 14 = .ok (.iload_n 1, 1) := by decide +kernel
theorem dX4_leaves_15 : decode cX4_leaves 15 = .ok (.iaload, 1) := by decide +kernel
theorem dX4_leaves_16 : decode cX4_leaves 16 = .ok (.if_icmp .ge 118, 3) := by decide +kernel
theorem dX4_leaves_19 : decode cX4_leaves 19 = .ok (.aload_n 0, 1) := by decide +kernel
theorem dX4_leaves_20 : decode cX4_leaves 20 = .ok (.getfield 50, 3) := by decide +kernel
theorem dX4_leaves_23 : decode cX4_leaves 23 = .ok (.iload_n 1, 1) := by decide +kernel
theorem dX4_leaves_24 : decode cX4_leaves 24 = .ok (.iaload, 1) := by decide +kernel
theorem dX4_leaves_25 : decode cX4_leaves 25 = .ok (.iconst (-1), 1) := by decide +kernel
theorem dX4_leaves_26 : decode cX4_leaves 26 = .ok (.if_icmp .eq 108, 3) := by decide +kernel
theorem dX4_leaves_29 : decode cX4_leaves 29 = .ok (.aload_n 0, 1) := by decide +kernel
theorem dX4_leaves_30 : decode cX4_leaves 30 = .ok (.getfield 53, 3) := by decide +kernel
theorem dX4_leaves_33 : decode cX4_leaves 33 = .ok (.iload_n 1, 1) := by decide +kernel
theorem dX4_leaves_34 : decode cX4_leaves 34 = .ok (.iaload, 1) := by decide +kernel
theorem dX4_leaves_35 : decode cX4_leaves 35 = .ok (.aload_n 0, 1) := by decide +kernel
theorem dX4_leaves_36 : decode cX4_leaves 36 = .ok (.getfield 85, 3) := by decide +kernel
theorem dX4_leaves_39 : decode cX4_leaves 39 = .ok (.if_icmp .le 95, 3) := by decide +kernel
theorem dX4_leaves_42 : decode cX4_leaves 42 = .ok (.sipush 1004, 3) := by decide +kernel
theorem dX4_leaves_45 : decode cX4_leaves 45 = .ok (.aload_n 0, 1) := by decide +kernel
theorem dX4_leaves_46 : decode cX4_leaves 46 = .ok (.getfield 50, 3) := by decide +kernel
theorem dX4_leaves_49 : decode cX4_leaves 49 = .ok (.iload_n 1, 1) := by decide +kernel
theorem dX4_leaves_50 : decode cX4_leaves 50 = .ok (.iaload, 1) := by decide +kernel
theorem dX4_leaves_51 : decode cX4_leaves 51 = .ok (.imul, 1) := by decide +kernel
theorem dX4_leaves_52 : decode cX4_leaves 52 = .ok (.aload_n 0, 1) := by decide +kernel
theorem dX4_leaves_53 : decode cX4_leaves 53 = .ok (.getfield 53, 3) := by decide +kernel
theorem dX4_leaves_56 : decode cX4_leaves 56 = .ok (.iload_n 1, 1) := by decide +kernel
theorem dX4_leaves_57 : decode cX4_leaves 57 = .ok (.iaload, 1) := by decide +kernel
theorem dX4_leaves_58 : decode cX4_leaves 58 = .ok (.iadd, 1) := by decide +kernel
theorem dX4_leaves_59 : decode cX4_leaves 59 = .ok (.iload_n 3, 1) := by decide +kernel
theorem dX4_leaves_60 : decode cX4_leaves 60 = .ok (.iadd, 1) := by decide +kernel
theorem dX4_leaves_61 : decode cX4_leaves 61 = .ok (.istore 4, 2) := by decide +kernel
theorem dX4_leaves_63 : decode cX4_leaves 63 = .ok (.aload_n 0, 1) := by decide +kernel
theorem dX4_leaves_64 : decode cX4_leaves 64 = .ok (.getfield 53, 3) := by decide +kernel
theorem dX4_leaves_67 : decode cX4_leaves 67 = .ok (.iload_n 1, 1) := by decide +kernel
theorem dX4_leaves_68 : decode cX4_leaves 68 = .ok (.iaload, 1) := by decide +kernel
theorem dX4_leaves_69 : decode cX4_leaves 69 = .ok (.aload_n 0, 1) := by decide +kernel
theorem dX4_leaves_70 : decode cX4_leaves 70 = .ok (.getfield 85, 3) := by decide +kernel
theorem dX4_leaves_73 : decode cX4_leaves 73 = .ok (.isub, 1) := by decide +kernel
theorem dX4_leaves_74 : decode cX4_leaves 74 = .ok (.bipush 8, 2) := by decide +kernel
theorem dX4_leaves_76 : decode cX4_leaves 76 = .ok (.if_icmp .lt 25, 3) := by decide +kernel
theorem dX4_leaves_79 : decode cX4_leaves 79 = .ok (.aload_n 0, 1) := by decide +kernel
theorem dX4_leaves_80 : decode cX4_leaves 80 = .ok (.getfield 35, 3) := by decide +kernel
theorem dX4_leaves_83 : decode cX4_leaves 83 = .ok (.iload_n 2, 1) := by decide +kernel
theorem dX4_leaves_84 : decode cX4_leaves 84 = .ok (.dup2, 1) := by decide +kernel
theorem dX4_leaves_85 : decode cX4_leaves 85 = .ok (.iaload, 1) := by decide +kernel
theorem dX4_leaves_86 : decode cX4_leaves 86 = .ok (.aload_n 0, 1) := by decide +kernel
theorem dX4_leaves_87 : decode cX4_leaves 87 = .ok (.getfield 62, 3) := by decide +kernel
theorem dX4_leaves_90 : decode cX4_leaves 90 = .ok (.iconst 4, 1) := by decide +kernel
theorem dX4_leaves_91 : decode cX4_leaves 91 = .ok (.iload_n 1, 1) := by decide +kernel
theorem dX4_leaves_92 : decode cX4_leaves 92 = .ok (.imul, 1) := by decide +kernel
theorem dX4_leaves_93 : decode cX4_leaves 93 = .ok (.iload_n 3, 1) := by decide +kernel
theorem dX4_leaves_94 : decode cX4_leaves 94 = .ok (.iadd, 1) := by decide +kernel
theorem dX4_leaves_95 : decode cX4_leaves 95 = .ok (.iaload, 1) := by decide +kernel
theorem dX4_leaves_96 : decode cX4_leaves 96 = .ok (.iadd, 1) := by decide +kernel
theorem dX4_leaves_97 : decode cX4_leaves 97 = .ok (.iastore, 1) := by decide +kernel
theorem dX4_leaves_98 : decode cX4_leaves 98 = .ok (.goto 30, 3) := by decide +kernel
theorem dX4_leaves_101 : decode cX4_leaves 101 = .ok (.aload_n 0, 1) := by decide +kernel
theorem dX4_leaves_102 : decode cX4_leaves 102 = .ok (.getfield 65, 3) := by decide +kernel
theorem dX4_leaves_105 : decode cX4_leaves 105 = .ok (.iload 4, 2) := by decide +kernel
theorem dX4_leaves_107 : decode cX4_leaves 107 = .ok (.iload_n 2, 1) := by decide +kernel
theorem dX4_leaves_108 : decode cX4_leaves 108 = .ok (.iconst 1, 1) := by decide +kernel
theorem dX4_leaves_109 : decode cX4_leaves 109 = .ok (.iadd, 1) := by decide +kernel
theorem dX4_leaves_110 : decode cX4_leaves 110 = .ok (.iastore, 1) := by decide +kernel
theorem dX4_leaves_111 : decode cX4_leaves 111 = .ok (.aload_n 0, 1) := by decide +kernel
theorem dX4_leaves_112 : decode cX4_leaves 112 = .ok (.getfield 68, 3) := by decide +kernel
theorem dX4_leaves_115 : decode cX4_leaves 115 = .ok (.iload 4, 2) := by decide +kernel
theorem dX4_leaves_117 : decode cX4_leaves 117 = .ok (.aload_n 0, 1) := by decide +kernel
theorem dX4_leaves_118 : decode cX4_leaves 118 = .ok (.getfield 62, 3) := by decide +kernel
theorem dX4_leaves_121 : decode cX4_leaves 121 = .ok (.iconst 4, 1) := by decide +kernel
theorem dX4_leaves_122 : decode cX4_leaves 122 = .ok (.iload_n 1, 1) := by decide +kernel
theorem dX4_leaves_123 : decode cX4_leaves 123 = .ok (.imul, 1) := by decide +kernel
theorem dX4_leaves_124 : decode cX4_leaves 124 = .ok (.iload_n 3, 1) := by decide +kernel
theorem dX4_leaves_125 : decode cX4_leaves 125 = .ok (.iadd, 1) := by decide +kernel
theorem dX4_leaves_126 : decode cX4_leaves 126 = .ok (.iaload, 1) := by decide +kernel
theorem dX4_leaves_127 : decode cX4_leaves 127 = .ok (.iastore, 1) := by decide +kernel
theorem dX4_leaves_128 : decode cX4_leaves 128 = .ok (.iinc 3 1, 3) := by decide +kernel
theorem dX4_leaves_131 : decode cX4_leaves 131 = .ok (.goto (-122), 3) := by decide +kernel
theorem dX4_leaves_134 : decode cX4_leaves 134 = .ok (.return_, 1) := by decide +kernel
theorem dX4_comes_0 : decode cX4_comes 0 = .ok (.aload_n 0, 1) := by decide +kernel
theorem dX4_comes_1 : decode cX4_comes 1 = .ok (.getfield 44, 3) := by decide +kernel
theorem dX4_comes_4 : decode cX4_comes 4 = .ok (.iload_n 1, 1) := by decide +kernel
theorem dX4_comes_5 : decode cX4_comes 5 = .ok (.iaload, 1) := by decide +kernel
theorem dX4_comes_6 : decode cX4_comes 6 = .ok (.istore_n 2, 1) := by decide +kernel
theorem dX4_comes_7 : decode cX4_comes 7 = .ok (.iconst 0, 1) := by decide +kernel
theorem dX4_comes_8 : decode cX4_comes 8 = .ok (.istore_n 3, 1) := by decide +kernel
theorem dX4_comes_9 : decode cX4_comes 9 = .ok (.iload_n 3, 1) := by decide +kernel
theorem dX4_comes_10 : decode cX4_comes 10 = .ok (.aload_n 0, 1) := by decide +kernel
theorem dX4_comes_11 : decode cX4_comes 11 = .ok (.getfield 56, 3) := by decide +kernel
theorem dX4_comes_14 : decode cX4_comes 14 = .ok (.iload_n 1, 1) := by decide +kernel
theorem dX4_comes_15 : decode cX4_comes 15 = .ok (.iaload, 1) := by decide +kernel
theorem dX4_comes_16 : decode cX4_comes 16 = .ok (.if_icmp .ge 158, 3) := by decide +kernel
theorem dX4_comes_19 : decode cX4_comes 19 = .ok (.iconst 0, 1) := by decide +kernel
theorem dX4_comes_20 : decode cX4_comes 20 = .ok (.istore 4, 2) := by decide +kernel
theorem dX4_comes_22 : decode cX4_comes 22 = .ok (.aload_n 0, 1) := by decide +kernel
theorem dX4_comes_23 : decode cX4_comes 23 = .ok (.getfield 50, 3) := by decide +kernel
theorem dX4_comes_26 : decode cX4_comes 26 = .ok (.iload_n 1, 1) := by decide +kernel
theorem dX4_comes_27 : decode cX4_comes 27 = .ok (.iaload, 1) := by decide +kernel
theorem dX4_comes_28 : decode cX4_comes 28 = .ok (.iconst (-1), 1) := by decide +kernel
theorem dX4_comes_29 : decode cX4_comes 29 = .ok (.if_icmp .eq 116, 3) := by decide +kernel
theorem dX4_comes_32 : decode cX4_comes 32 = .ok (.sipush 1004, 3) := by decide +kernel
theorem dX4_comes_35 : decode cX4_comes 35 = .ok (.aload_n 0, 1) := by decide +kernel
theorem dX4_comes_36 : decode cX4_comes 36 = .ok (.getfield 50, 3) := by decide +kernel
theorem dX4_comes_39 : decode cX4_comes 39 = .ok (.iload_n 1, 1) := by decide +kernel
theorem dX4_comes_40 : decode cX4_comes 40 = .ok (.iaload, 1) := by decide +kernel
theorem dX4_comes_41 : decode cX4_comes 41 = .ok (.imul, 1) := by decide +kernel
theorem dX4_comes_42 : decode cX4_comes 42 = .ok (.aload_n 0, 1) := by decide +kernel
theorem dX4_comes_43 : decode cX4_comes 43 = .ok (.getfield 53, 3) := by decide +kernel
theorem dX4_comes_46 : decode cX4_comes 46 = .ok (.iload_n 1, 1) := by decide +kernel
theorem dX4_comes_47 : decode cX4_comes 47 = .ok (.iaload, 1) := by decide +kernel
theorem dX4_comes_48 : decode cX4_comes 48 = .ok (.iadd, 1) := by decide +kernel
theorem dX4_comes_49 : decode cX4_comes 49 = .ok (.iload_n 3, 1) := by decide +kernel
theorem dX4_comes_50 : decode cX4_comes 50 = .ok (.iadd, 1) := by decide +kernel
theorem dX4_comes_51 : decode cX4_comes 51 = .ok (.istore 5, 2) := by decide +kernel
theorem dX4_comes_53 : decode cX4_comes 53 = .ok (.aload_n 0, 1) := by decide +kernel
theorem dX4_comes_54 : decode cX4_comes 54 = .ok (.getfield 65, 3) := by decide +kernel
theorem dX4_comes_57 : decode cX4_comes 57 = .ok (.iload 5, 2) := by decide +kernel
theorem dX4_comes_59 : decode cX4_comes 59 = .ok (.iaload, 1) := by decide +kernel
theorem dX4_comes_60 : decode cX4_comes 60 = .ok (.iconst 1, 1) := by decide +kernel
theorem dX4_comes_61 : decode cX4_comes 61 = .ok (.isub, 1) := by decide +kernel
theorem dX4_comes_62 : decode cX4_comes 62 = .ok (.istore 6, 2) := by decide +kernel
theorem dX4_comes_64 : decode cX4_comes 64 = .ok (.iload 6, 2) := by decide +kernel
theorem dX4_comes_66 : decode cX4_comes 66 = .ok (.iconst (-1), 1) := by decide +kernel
theorem dX4_comes_67 : decode cX4_comes 67 = .ok (.if_icmp .ne 17, 3) := by decide +kernel
theorem dX4_comes_70 : decode cX4_comes 70 = .ok (.aload_n 0, 1) := by decide +kernel
theorem dX4_comes_71 : decode cX4_comes 71 = .ok (.getfield 13, 3) := by decide +kernel
theorem dX4_comes_74 : decode cX4_comes 74 = .ok (.aload_n 0, 1) := by decide +kernel
theorem dX4_comes_75 : decode cX4_comes 75 = .ok (.getfield 50, 3) := by decide +kernel
theorem dX4_comes_78 : decode cX4_comes 78 = .ok (.iload_n 1, 1) := by decide +kernel
theorem dX4_comes_79 : decode cX4_comes 79 = .ok (.iaload, 1) := by decide +kernel
theorem dX4_comes_80 : decode cX4_comes 80 = .ok (.iaload, 1) := by decide +kernel
theorem dX4_comes_81 : decode cX4_comes 81 = .ok (.goto 22, 3) := by decide +kernel
theorem dX4_comes_84 : decode cX4_comes 84 = .ok (.iload 6, 2) := by decide +kernel
theorem dX4_comes_86 : decode cX4_comes 86 = .ok (.iload_n 2, 1) := by decide +kernel
theorem dX4_comes_87 : decode cX4_comes 87 = .ok (.if_icmp .ne 7, 3) := by decide +kernel
theorem dX4_comes_90 : decode cX4_comes 90 = .ok (.iconst 0, 1) := by decide +kernel
theorem dX4_comes_91 : decode cX4_comes 91 = .ok (.goto 12, 3) := by decide +kernel
theorem dX4_comes_94 : decode cX4_comes 94 = .ok (.aload_n 0, 1) := by decide +kernel
theorem dX4_comes_95 : decode cX4_comes 95 = .ok (.getfield 68, 3) := by decide +kernel
theorem dX4_comes_98 : decode cX4_comes 98 = .ok (.iload 5, 2) := by decide +kernel
theorem dX4_comes_100 : decode cX4_comes 100 = .ok (.iaload, 1) := by decide +kernel
theorem dX4_comes_101 : decode cX4_comes 101 = .ok (.iconst 2, 1) := by decide +kernel
theorem dX4_comes_102 : decode cX4_comes 102 = .ok (.idiv, 1) := by decide +kernel
theorem dX4_comes_103 : decode cX4_comes 103 = .ok (.istore 4, 2) := by decide +kernel
theorem dX4_comes_105 : decode cX4_comes 105 = .ok (.iload 6, 2) := by decide +kernel
theorem dX4_comes_107 : decode cX4_comes 107 = .ok (.iconst (-1), 1) := by decide +kernel
theorem dX4_comes_108 : decode cX4_comes 108 = .ok (.if_icmp .eq 21, 3) := by decide +kernel
theorem dX4_comes_111 : decode cX4_comes 111 = .ok (.iload 6, 2) := by decide +kernel
theorem dX4_comes_113 : decode cX4_comes 113 = .ok (.iload_n 2, 1) := by decide +kernel
theorem dX4_comes_114 : decode cX4_comes 114 = .ok (.if_icmp .eq 15, 3) := by decide +kernel
theorem dX4_comes_117 : decode cX4_comes 117 = .ok (.aload_n 0, 1) := by decide +kernel
theorem dX4_comes_118 : decode cX4_comes 118 = .ok (.getfield 35, 3) := by decide +kernel
theorem dX4_comes_121 : decode cX4_comes 121 = .ok (.iload 6, 2) := by decide +kernel
theorem dX4_comes_123 : decode cX4_comes 123 = .ok (.dup2, 1) := by decide +kernel
theorem dX4_comes_124 : decode cX4_comes 124 = .ok (.iaload, 1) := by decide +kernel
theorem dX4_comes_125 : decode cX4_comes 125 = .ok (.iload 4, 2) := by decide +kernel
theorem dX4_comes_127 : decode cX4_comes 127 = .ok (.iadd, 1) := by decide +kernel
theorem dX4_comes_128 : decode cX4_comes 128 = .ok (.iastore, 1) := by decide +kernel
theorem dX4_comes_129 : decode cX4_comes 129 = .ok (.aload_n 0, 1) := by decide +kernel
theorem dX4_comes_130 : decode cX4_comes 130 = .ok (.getfield 65, 3) := by decide +kernel
theorem dX4_comes_133 : decode cX4_comes 133 = .ok (.iload 5, 2) := by decide +kernel
theorem dX4_comes_135 : decode cX4_comes 135 = .ok (.iconst 0, 1) := by decide +kernel
theorem dX4_comes_136 : decode cX4_comes 136 = .ok (.iastore, 1) := by decide +kernel
theorem dX4_comes_137 : decode cX4_comes 137 = .ok (.aload_n 0, 1) := by decide +kernel
theorem dX4_comes_138 : decode cX4_comes 138 = .ok (.getfield 68, 3) := by decide +kernel
theorem dX4_comes_141 : decode cX4_comes 141 = .ok (.iload 5, 2) := by decide +kernel
theorem dX4_comes_143 : decode cX4_comes 143 = .ok (.iconst 0, 1) := by decide +kernel
theorem dX4_comes_144 : decode cX4_comes 144 = .ok (.iastore, 1) := by decide +kernel
theorem dX4_comes_145 : decode cX4_comes 145 = .ok (.aload_n 0, 1) := by decide +kernel
theorem dX4_comes_146 : decode cX4_comes 146 = .ok (.getfield 62, 3) := by decide +kernel
theorem dX4_comes_149 : decode cX4_comes 149 = .ok (.iconst 4, 1) := by decide +kernel
theorem dX4_comes_150 : decode cX4_comes 150 = .ok (.iload_n 1, 1) := by decide +kernel
theorem dX4_comes_151 : decode cX4_comes 151 = .ok (.imul, 1) := by decide +kernel
theorem dX4_comes_152 : decode cX4_comes 152 = .ok (.iload_n 3, 1) := by decide +kernel
theorem dX4_comes_153 : decode cX4_comes 153 = .ok (.iadd, 1) := by decide +kernel
theorem dX4_comes_154 : decode cX4_comes 154 = .ok (.iload 4, 2) := by decide +kernel
theorem dX4_comes_156 : decode cX4_comes 156 = .ok (.iastore, 1) := by decide +kernel
theorem dX4_comes_157 : decode cX4_comes 157 = .ok (.aload_n 0, 1) := by decide +kernel
theorem dX4_comes_158 : decode cX4_comes 158 = .ok (.getfield 35, 3) := by decide +kernel
theorem dX4_comes_161 : decode cX4_comes 161 = .ok (.iload_n 2, 1) := by decide +kernel
theorem dX4_comes_162 : decode cX4_comes 162 = .ok (.dup2, 1) := by decide +kernel
theorem dX4_comes_163 : decode cX4_comes 163 = .ok (.iaload, 1) := by decide +kernel
theorem dX4_comes_164 : decode cX4_comes 164 = .ok (.iload 4, 2) := by decide +kernel
theorem dX4_comes_166 : decode cX4_comes 166 = .ok (.isub, 1) := by decide +kernel
theorem dX4_comes_167 : decode cX4_comes 167 = .ok (.iastore, 1) := by decide +kernel
theorem dX4_comes_168 : decode cX4_comes 168 = .ok (.iinc 3 1, 3) := by decide +kernel
theorem dX4_comes_171 : decode cX4_comes 171 = .ok (.goto (-162), 3) := by decide +kernel
theorem dX4_comes_174 : decode cX4_comes 174 = .ok (.return_, 1) := by decide +kernel
theorem dX4_decide_0 : decode cX4_decide 0 = .ok (.aload_n 0, 1) := by decide +kernel
theorem dX4_decide_1 : decode cX4_decide 1 = .ok (.aload_n 0, 1) := by decide +kernel
theorem dX4_decide_2 : decode cX4_decide 2 = .ok (.iload_n 1, 1) := by decide +kernel
theorem dX4_decide_3 : decode cX4_decide 3 = .ok (.invokevirtual 88, 3) := by decide +kernel
theorem dX4_decide_6 : decode cX4_decide 6 = .ok (.ifCond .ne 7, 3) := by decide +kernel
theorem dX4_decide_9 : decode cX4_decide 9 = .ok (.iconst 1, 1) := by decide +kernel
theorem dX4_decide_10 : decode cX4_decide 10 = .ok (.goto 18, 3) := by decide +kernel
theorem dX4_decide_13 : decode cX4_decide 13 = .ok (.aload_n 0, 1) := by decide +kernel
theorem dX4_decide_14 : decode cX4_decide 14 = .ok (.getfield 20, 3) := by decide +kernel
theorem dX4_decide_17 : decode cX4_decide 17 = .ok (.iload_n 1, 1) := by decide +kernel
theorem dX4_decide_18 : decode cX4_decide 18 = .ok (.iaload, 1) := by decide +kernel
theorem dX4_decide_19 : decode cX4_decide 19 = .ok (.iconst 1, 1) := by decide +kernel
theorem dX4_decide_20 : decode cX4_decide 20 = .ok (.if_icmp .eq 7, 3) := by decide +kernel
theorem dX4_decide_23 : decode cX4_decide 23 = .ok (.iconst 2, 1) := by decide +kernel
theorem dX4_decide_24 : decode cX4_decide 24 = .ok (.goto 4, 3) := by decide +kernel
theorem dX4_decide_27 : decode cX4_decide 27 = .ok (.iconst 0, 1) := by decide +kernel
theorem dX4_decide_28 : decode cX4_decide 28 = .ok (.putfield 71, 3) := by decide +kernel
theorem dX4_decide_31 : decode cX4_decide 31 = .ok (.aload_n 0, 1) := by decide +kernel
theorem dX4_decide_32 : decode cX4_decide 32 = .ok (.getfield 71, 3) := by decide +kernel
theorem dX4_decide_35 : decode cX4_decide 35 = .ok (.ifCond .le 5, 3) := by decide +kernel
theorem dX4_decide_38 : decode cX4_decide 38 = .ok (.iconst 0, 1) := by decide +kernel
theorem dX4_decide_39 : decode cX4_decide 39 = .ok (.ireturn, 1) := by decide +kernel
theorem dX4_decide_40 : decode cX4_decide 40 = .ok (.aload_n 0, 1) := by decide +kernel
theorem dX4_decide_41 : decode cX4_decide 41 = .ok (.getfield 20, 3) := by decide +kernel
theorem dX4_decide_44 : decode cX4_decide 44 = .ok (.iload_n 1, 1) := by decide +kernel
theorem dX4_decide_45 : decode cX4_decide 45 = .ok (.iconst 2, 1) := by decide +kernel
theorem dX4_decide_46 : decode cX4_decide 46 = .ok (.iastore, 1) := by decide +kernel
theorem dX4_decide_47 : decode cX4_decide 47 = .ok (.iconst 0, 1) := by decide +kernel
theorem dX4_decide_48 : decode cX4_decide 48 = .ok (.istore_n 2, 1) := by decide +kernel
theorem dX4_decide_49 : decode cX4_decide 49 = .ok (.iconst 0, 1) := by decide +kernel
theorem dX4_decide_50 : decode cX4_decide 50 = .ok (.istore_n 3, 1) := by decide +kernel
theorem dX4_decide_51 : decode cX4_decide 51 = .ok (.iload_n 3, 1) := by decide +kernel
theorem dX4_decide_52 : decode cX4_decide 52 = .ok (.aload_n 0, 1) := by decide +kernel
theorem dX4_decide_53 : decode cX4_decide 53 = .ok (.getfield 82, 3) := by decide +kernel
theorem dX4_decide_56 : decode cX4_decide 56 = .ok (.if_icmp .ge 43, 3) := by decide +kernel
theorem dX4_decide_59 : decode cX4_decide 59 = .ok (.aload_n 0, 1) := by decide +kernel
theorem dX4_decide_60 : decode cX4_decide 60 = .ok (.getfield 44, 3) := by decide +kernel
theorem dX4_decide_63 : decode cX4_decide 63 = .ok (.iload_n 3, 1) := by decide +kernel
theorem dX4_decide_64 : decode cX4_decide 64 = .ok (.iaload, 1) := by decide +kernel
theorem dX4_decide_65 : decode cX4_decide 65 = .ok (.iload_n 1, 1) := by decide +kernel
theorem dX4_decide_66 : decode cX4_decide 66 = .ok (.if_icmp .ne 27, 3) := by decide +kernel
theorem dX4_decide_69 : decode cX4_decide 69 = .ok (.aload_n 0, 1) := by decide +kernel
theorem dX4_decide_70 : decode cX4_decide 70 = .ok (.getfield 41, 3) := by decide +kernel
theorem dX4_decide_73 : decode cX4_decide 73 = .ok (.iload_n 3, 1) := by decide +kernel
theorem dX4_decide_74 : decode cX4_decide 74 = .ok (.iaload, 1) := by decide +kernel
theorem dX4_decide_75 : decode cX4_decide 75 = .ok (.ifCond .ne 18, 3) := by decide +kernel
theorem dX4_decide_78 : decode cX4_decide 78 = .ok (.aload_n 0, 1) := by decide +kernel
theorem dX4_decide_79 : decode cX4_decide 79 = .ok (.iload_n 3, 1) := by decide +kernel
theorem dX4_decide_80 : decode cX4_decide 80 = .ok (.invokevirtual 92, 3) := by decide +kernel
theorem dX4_decide_83 : decode cX4_decide 83 = .ok (.aload_n 0, 1) := by decide +kernel
theorem dX4_decide_84 : decode cX4_decide 84 = .ok (.getfield 41, 3) := by decide +kernel
theorem dX4_decide_87 : decode cX4_decide 87 = .ok (.iload_n 3, 1) := by decide +kernel
theorem dX4_decide_88 : decode cX4_decide 88 = .ok (.iconst 3, 1) := by decide +kernel
theorem dX4_decide_89 : decode cX4_decide 89 = .ok (.iastore, 1) := by decide +kernel
theorem dX4_decide_90 : decode cX4_decide 90 = .ok (.iinc 2 1, 3) := by decide +kernel
theorem dX4_decide_93 : decode cX4_decide 93 = .ok (.iinc 3 1, 3) := by decide +kernel
theorem dX4_decide_96 : decode cX4_decide 96 = .ok (.goto (-45), 3) := by decide +kernel
theorem dX4_decide_99 : decode cX4_decide 99 = .ok (.iload_n 2, 1) := by decide +kernel
theorem dX4_decide_100 : decode cX4_decide 100 = .ok (.ireturn, 1) := by decide +kernel
theorem dX4_appeal_0 : decode cX4_appeal 0 = .ok (.aload_n 0, 1) := by decide +kernel
theorem dX4_appeal_1 : decode cX4_appeal 1 = .ok (.aload_n 0, 1) := by decide +kernel
theorem dX4_appeal_2 : decode cX4_appeal 2 = .ok (.iload_n 1, 1) := by decide +kernel
theorem dX4_appeal_3 : decode cX4_appeal 3 = .ok (.invokevirtual 88, 3) := by decide +kernel
theorem dX4_appeal_6 : decode cX4_appeal 6 = .ok (.ifCond .ne 7, 3) := by decide +kernel
theorem dX4_appeal_9 : decode cX4_appeal 9 = .ok (.iconst 1, 1) := by decide +kernel
theorem dX4_appeal_10 : decode cX4_appeal 10 = .ok (.goto 27, 3) := by decide +kernel
theorem dX4_appeal_13 : decode cX4_appeal 13 = .ok (.aload_n 0, 1) := by decide +kernel
theorem dX4_appeal_14 : decode cX4_appeal 14 = .ok (.getfield 20, 3) := by decide +kernel
theorem dX4_appeal_17 : decode cX4_appeal 17 = .ok (.iload_n 1, 1) := by decide +kernel
theorem dX4_appeal_18 : decode cX4_appeal 18 = .ok (.iaload, 1) := by decide +kernel
theorem dX4_appeal_19 : decode cX4_appeal 19 = .ok (.iconst 2, 1) := by decide +kernel
theorem dX4_appeal_20 : decode cX4_appeal 20 = .ok (.if_icmp .ne 12, 3) := by decide +kernel
theorem dX4_appeal_23 : decode cX4_appeal 23 = .ok (.aload_n 0, 1) := by decide +kernel
theorem dX4_appeal_24 : decode cX4_appeal 24 = .ok (.getfield 35, 3) := by decide +kernel
theorem dX4_appeal_27 : decode cX4_appeal 27 = .ok (.iload_n 1, 1) := by decide +kernel
theorem dX4_appeal_28 : decode cX4_appeal 28 = .ok (.iaload, 1) := by decide +kernel
theorem dX4_appeal_29 : decode cX4_appeal 29 = .ok (.ifCond .ge 7, 3) := by decide +kernel
theorem dX4_appeal_32 : decode cX4_appeal 32 = .ok (.iconst 2, 1) := by decide +kernel
theorem dX4_appeal_33 : decode cX4_appeal 33 = .ok (.goto 4, 3) := by decide +kernel
theorem dX4_appeal_36 : decode cX4_appeal 36 = .ok (.iconst 0, 1) := by decide +kernel
theorem dX4_appeal_37 : decode cX4_appeal 37 = .ok (.putfield 71, 3) := by decide +kernel
theorem dX4_appeal_40 : decode cX4_appeal 40 = .ok (.aload_n 0, 1) := by decide +kernel
theorem dX4_appeal_41 : decode cX4_appeal 41 = .ok (.getfield 71, 3) := by decide +kernel
theorem dX4_appeal_44 : decode cX4_appeal 44 = .ok (.ifCond .le 5, 3) := by decide +kernel
theorem dX4_appeal_47 : decode cX4_appeal 47 = .ok (.iconst 0, 1) := by decide +kernel
theorem dX4_appeal_48 : decode cX4_appeal 48 = .ok (.ireturn, 1) := by decide +kernel
theorem dX4_appeal_49 : decode cX4_appeal 49 = .ok (.aload_n 0, 1) := by decide +kernel
theorem dX4_appeal_50 : decode cX4_appeal 50 = .ok (.getfield 20, 3) := by decide +kernel
theorem dX4_appeal_53 : decode cX4_appeal 53 = .ok (.iload_n 1, 1) := by decide +kernel
theorem dX4_appeal_54 : decode cX4_appeal 54 = .ok (.iconst 3, 1) := by decide +kernel
theorem dX4_appeal_55 : decode cX4_appeal 55 = .ok (.iastore, 1) := by decide +kernel
theorem dX4_appeal_56 : decode cX4_appeal 56 = .ok (.aload_n 0, 1) := by decide +kernel
theorem dX4_appeal_57 : decode cX4_appeal 57 = .ok (.getfield 35, 3) := by decide +kernel
theorem dX4_appeal_60 : decode cX4_appeal 60 = .ok (.iload_n 1, 1) := by decide +kernel
theorem dX4_appeal_61 : decode cX4_appeal 61 = .ok (.dup2, 1) := by decide +kernel
theorem dX4_appeal_62 : decode cX4_appeal 62 = .ok (.iaload, 1) := by decide +kernel
theorem dX4_appeal_63 : decode cX4_appeal 63 = .ok (.aload_n 0, 1) := by decide +kernel
theorem dX4_appeal_64 : decode cX4_appeal 64 = .ok (.getfield 16, 3) := by decide +kernel
theorem dX4_appeal_67 : decode cX4_appeal 67 = .ok (.aload_n 0, 1) := by decide +kernel
theorem dX4_appeal_68 : decode cX4_appeal 68 = .ok (.getfield 26, 3) := by decide +kernel
theorem dX4_appeal_71 : decode cX4_appeal 71 = .ok (.iload_n 1, 1) := by decide +kernel
theorem dX4_appeal_72 : decode cX4_appeal 72 = .ok (.iaload, 1) := by decide +kernel
theorem dX4_appeal_73 : decode cX4_appeal 73 = .ok (.baload, 1) := by decide +kernel
theorem dX4_appeal_74 : decode cX4_appeal 74 = .ok (.ifCond .eq 7, 3) := by decide +kernel
theorem dX4_appeal_77 : decode cX4_appeal 77 = .ok (.iconst 0, 1) := by decide +kernel
theorem dX4_appeal_78 : decode cX4_appeal 78 = .ok (.goto 5, 3) := by decide +kernel
theorem dX4_appeal_81 : decode cX4_appeal 81 = .ok (.bipush 80, 2) := by decide +kernel
theorem dX4_appeal_83 : decode cX4_appeal 83 = .ok (.isub, 1) := by decide +kernel
theorem dX4_appeal_84 : decode cX4_appeal 84 = .ok (.iastore, 1) := by decide +kernel
theorem dX4_appeal_85 : decode cX4_appeal 85 = .ok (.aload_n 0, 1) := by decide +kernel
theorem dX4_appeal_86 : decode cX4_appeal 86 = .ok (.getfield 35, 3) := by decide +kernel
theorem dX4_appeal_89 : decode cX4_appeal 89 = .ok (.iload_n 1, 1) := by decide +kernel
theorem dX4_appeal_90 : decode cX4_appeal 90 = .ok (.iaload, 1) := by decide +kernel
theorem dX4_appeal_91 : decode cX4_appeal 91 = .ok (.ireturn, 1) := by decide +kernel
theorem dX4_settle_0 : decode cX4_settle 0 = .ok (.aload_n 0, 1) := by decide +kernel
theorem dX4_settle_1 : decode cX4_settle 1 = .ok (.aload_n 0, 1) := by decide +kernel
theorem dX4_settle_2 : decode cX4_settle 2 = .ok (.iload_n 1, 1) := by decide +kernel
theorem dX4_settle_3 : decode cX4_settle 3 = .ok (.invokevirtual 88, 3) := by decide +kernel
theorem dX4_settle_6 : decode cX4_settle 6 = .ok (.ifCond .ne 7, 3) := by decide +kernel
theorem dX4_settle_9 : decode cX4_settle 9 = .ok (.iconst 1, 1) := by decide +kernel
theorem dX4_settle_10 : decode cX4_settle 10 = .ok (.goto 18, 3) := by decide +kernel
theorem dX4_settle_13 : decode cX4_settle 13 = .ok (.aload_n 0, 1) := by decide +kernel
theorem dX4_settle_14 : decode cX4_settle 14 = .ok (.getfield 20, 3) := by decide +kernel
theorem dX4_settle_17 : decode cX4_settle 17 = .ok (.iload_n 1, 1) := by decide +kernel
theorem dX4_settle_18 : decode cX4_settle 18 = .ok (.iaload, 1) := by decide +kernel
theorem dX4_settle_19 : decode cX4_settle 19 = .ok (.iconst 3, 1) := by decide +kernel
theorem dX4_settle_20 : decode cX4_settle 20 = .ok (.if_icmp .eq 7, 3) := by decide +kernel
theorem dX4_settle_23 : decode cX4_settle 23 = .ok (.iconst 2, 1) := by decide +kernel
theorem dX4_settle_24 : decode cX4_settle 24 = .ok (.goto 4, 3) := by decide +kernel
theorem dX4_settle_27 : decode cX4_settle 27 = .ok (.iconst 0, 1) := by decide +kernel
theorem dX4_settle_28 : decode cX4_settle 28 = .ok (.putfield 71, 3) := by decide +kernel
theorem dX4_settle_31 : decode cX4_settle 31 = .ok (.aload_n 0, 1) := by decide +kernel
theorem dX4_settle_32 : decode cX4_settle 32 = .ok (.getfield 71, 3) := by decide +kernel
theorem dX4_settle_35 : decode cX4_settle 35 = .ok (.ifCond .le 5, 3) := by decide +kernel
theorem dX4_settle_38 : decode cX4_settle 38 = .ok (.iconst 0, 1) := by decide +kernel
theorem dX4_settle_39 : decode cX4_settle 39 = .ok (.ireturn, 1) := by decide +kernel
theorem dX4_settle_40 : decode cX4_settle 40 = .ok (.aload_n 0, 1) := by decide +kernel
theorem dX4_settle_41 : decode cX4_settle 41 = .ok (.getfield 20, 3) := by decide +kernel
theorem dX4_settle_44 : decode cX4_settle 44 = .ok (.iload_n 1, 1) := by decide +kernel
theorem dX4_settle_45 : decode cX4_settle 45 = .ok (.iload_n 2, 1) := by decide +kernel
theorem dX4_settle_46 : decode cX4_settle 46 = .ok (.ifCond .eq 7, 3) := by decide +kernel
theorem dX4_settle_49 : decode cX4_settle 49 = .ok (.iconst 0, 1) := by decide +kernel
theorem dX4_settle_50 : decode cX4_settle 50 = .ok (.goto 4, 3) := by decide +kernel
theorem dX4_settle_53 : decode cX4_settle 53 = .ok (.iconst 2, 1) := by decide +kernel
theorem dX4_settle_54 : decode cX4_settle 54 = .ok (.iastore, 1) := by decide +kernel
theorem dX4_settle_55 : decode cX4_settle 55 = .ok (.aload_n 0, 1) := by decide +kernel
theorem dX4_settle_56 : decode cX4_settle 56 = .ok (.getfield 38, 3) := by decide +kernel
theorem dX4_settle_59 : decode cX4_settle 59 = .ok (.iload_n 1, 1) := by decide +kernel
theorem dX4_settle_60 : decode cX4_settle 60 = .ok (.iaload, 1) := by decide +kernel
theorem dX4_settle_61 : decode cX4_settle 61 = .ok (.ireturn, 1) := by decide +kernel
theorem dX4_close_0 : decode cX4_close 0 = .ok (.aload_n 0, 1) := by decide +kernel
theorem dX4_close_1 : decode cX4_close 1 = .ok (.aload_n 0, 1) := by decide +kernel
theorem dX4_close_2 : decode cX4_close 2 = .ok (.iload_n 1, 1) := by decide +kernel
theorem dX4_close_3 : decode cX4_close 3 = .ok (.invokevirtual 88, 3) := by decide +kernel
theorem dX4_close_6 : decode cX4_close 6 = .ok (.ifCond .ne 7, 3) := by decide +kernel
theorem dX4_close_9 : decode cX4_close 9 = .ok (.iconst 1, 1) := by decide +kernel
theorem dX4_close_10 : decode cX4_close 10 = .ok (.goto 18, 3) := by decide +kernel
theorem dX4_close_13 : decode cX4_close 13 = .ok (.aload_n 0, 1) := by decide +kernel
theorem dX4_close_14 : decode cX4_close 14 = .ok (.getfield 20, 3) := by decide +kernel
theorem dX4_close_17 : decode cX4_close 17 = .ok (.iload_n 1, 1) := by decide +kernel
theorem dX4_close_18 : decode cX4_close 18 = .ok (.iaload, 1) := by decide +kernel
theorem dX4_close_19 : decode cX4_close 19 = .ok (.iconst 2, 1) := by decide +kernel
theorem dX4_close_20 : decode cX4_close 20 = .ok (.if_icmp .eq 7, 3) := by decide +kernel
theorem dX4_close_23 : decode cX4_close 23 = .ok (.iconst 2, 1) := by decide +kernel
theorem dX4_close_24 : decode cX4_close 24 = .ok (.goto 4, 3) := by decide +kernel
theorem dX4_close_27 : decode cX4_close 27 = .ok (.iconst 0, 1) := by decide +kernel
theorem dX4_close_28 : decode cX4_close 28 = .ok (.putfield 71, 3) := by decide +kernel
theorem dX4_close_31 : decode cX4_close 31 = .ok (.aload_n 0, 1) := by decide +kernel
theorem dX4_close_32 : decode cX4_close 32 = .ok (.getfield 71, 3) := by decide +kernel
theorem dX4_close_35 : decode cX4_close 35 = .ok (.ifCond .le 5, 3) := by decide +kernel
theorem dX4_close_38 : decode cX4_close 38 = .ok (.iconst 0, 1) := by decide +kernel
theorem dX4_close_39 : decode cX4_close 39 = .ok (.ireturn, 1) := by decide +kernel
theorem dX4_close_40 : decode cX4_close 40 = .ok (.aload_n 0, 1) := by decide +kernel
theorem dX4_close_41 : decode cX4_close 41 = .ok (.getfield 20, 3) := by decide +kernel
theorem dX4_close_44 : decode cX4_close 44 = .ok (.iload_n 1, 1) := by decide +kernel
theorem dX4_close_45 : decode cX4_close 45 = .ok (.iconst 4, 1) := by decide +kernel
theorem dX4_close_46 : decode cX4_close 46 = .ok (.iastore, 1) := by decide +kernel
theorem dX4_close_47 : decode cX4_close 47 = .ok (.aload_n 0, 1) := by decide +kernel
theorem dX4_close_48 : decode cX4_close 48 = .ok (.getfield 35, 3) := by decide +kernel
theorem dX4_close_51 : decode cX4_close 51 = .ok (.iload_n 1, 1) := by decide +kernel
theorem dX4_close_52 : decode cX4_close 52 = .ok (.iaload, 1) := by decide +kernel
theorem dX4_close_53 : decode cX4_close 53 = .ok (.ireturn, 1) := by decide +kernel
theorem dX4_meets_0 : decode cX4_meets 0 = .ok (.iload_n 0, 1) := by decide +kernel
theorem dX4_meets_1 : decode cX4_meets 1 = .ok (.iload_n 2, 1) := by decide +kernel
theorem dX4_meets_2 : decode cX4_meets 2 = .ok (.iload_n 3, 1) := by decide +kernel
theorem dX4_meets_3 : decode cX4_meets 3 = .ok (.iadd, 1) := by decide +kernel
theorem dX4_meets_4 : decode cX4_meets 4 = .ok (.if_icmp .ge 14, 3) := by decide +kernel
theorem dX4_meets_7 : decode cX4_meets 7 = .ok (.iload_n 2, 1) := by decide +kernel
theorem dX4_meets_8 : decode cX4_meets 8 = .ok (.iload_n 0, 1) := by decide +kernel
theorem dX4_meets_9 : decode cX4_meets 9 = .ok (.iload_n 1, 1) := by decide +kernel
theorem dX4_meets_10 : decode cX4_meets 10 = .ok (.iadd, 1) := by decide +kernel
theorem dX4_meets_11 : decode cX4_meets 11 = .ok (.if_icmp .ge 7, 3) := by decide +kernel
theorem dX4_meets_14 : decode cX4_meets 14 = .ok (.iconst 1, 1) := by decide +kernel
theorem dX4_meets_15 : decode cX4_meets 15 = .ok (.goto 4, 3) := by decide +kernel
theorem dX4_meets_18 : decode cX4_meets 18 = .ok (.iconst 0, 1) := by decide +kernel
theorem dX4_meets_19 : decode cX4_meets 19 = .ok (.ireturn, 1) := by decide +kernel
theorem dX4_clashes_0 : decode cX4_clashes 0 = .ok (.iconst 0, 1) := by decide +kernel
theorem dX4_clashes_1 : decode cX4_clashes 1 = .ok (.istore 8, 2) := by decide +kernel
theorem dX4_clashes_3 : decode cX4_clashes 3 = .ok (.iconst 0, 1) := by decide +kernel
theorem dX4_clashes_4 : decode cX4_clashes 4 = .ok (.istore 9, 2) := by decide +kernel
theorem dX4_clashes_6 : decode cX4_clashes 6 = .ok (.iload 9, 2) := by decide +kernel
theorem dX4_clashes_8 : decode cX4_clashes 8 = .ok (.aload_n 0, 1) := by decide +kernel
theorem dX4_clashes_9 : decode cX4_clashes 9 = .ok (.getfield 82, 3) := by decide +kernel
theorem dX4_clashes_12 : decode cX4_clashes 12 = .ok (.if_icmp .ge 231, 3) := by decide +kernel
theorem dX4_clashes_15 : decode cX4_clashes 15 = .ok (.aload_n 0, 1) := by decide +kernel
theorem dX4_clashes_16 : decode cX4_clashes 16 = .ok (.getfield 44, 3) := by decide +kernel
theorem dX4_clashes_19 : decode cX4_clashes 19 = .ok (.iload 9, 2) := by decide +kernel
theorem dX4_clashes_21 : decode cX4_clashes 21 = .ok (.iaload, 1) := by decide +kernel
theorem dX4_clashes_22 : decode cX4_clashes 22 = .ok (.istore 10, 2) := by decide +kernel
theorem dX4_clashes_24 : decode cX4_clashes 24 = .ok (.iload_n 1, 1) := by decide +kernel
theorem dX4_clashes_25 : decode cX4_clashes 25 = .ok (.iconst 1, 1) := by decide +kernel
theorem dX4_clashes_26 : decode cX4_clashes 26 = .ok (.if_icmp .ne 22, 3) := by decide +kernel
theorem dX4_clashes_29 : decode cX4_clashes 29 = .ok (.aload_n 0, 1) := by decide +kernel
theorem dX4_clashes_30 : decode cX4_clashes 30 = .ok (.getfield 47, 3) := by decide +kernel
theorem dX4_clashes_33 : decode cX4_clashes 33 = .ok (.iload 9, 2) := by decide +kernel
theorem dX4_clashes_35 : decode cX4_clashes 35 = .ok (.iaload, 1) := by decide +kernel
theorem dX4_clashes_36 : decode cX4_clashes 36 = .ok (.iload_n 3, 1) := by decide +kernel
theorem dX4_clashes_37 : decode cX4_clashes 37 = .ok (.if_icmp .ne 7, 3) := by decide +kernel
theorem dX4_clashes_40 : decode cX4_clashes 40 = .ok (.iconst 1, 1) := by decide +kernel
theorem dX4_clashes_41 : decode cX4_clashes 41 = .ok (.goto 136, 3) := by decide +kernel
theorem dX4_clashes_44 : decode cX4_clashes 44 = .ok (.iconst 0, 1) := by decide +kernel
theorem dX4_clashes_45 : decode cX4_clashes 45 = .ok (.goto 132, 3) := by decide +kernel
theorem dX4_clashes_48 : decode cX4_clashes 48 = .ok (.iload_n 1, 1) := by decide +kernel
theorem dX4_clashes_49 : decode cX4_clashes 49 = .ok (.iconst 2, 1) := by decide +kernel
theorem dX4_clashes_50 : decode cX4_clashes 50 = .ok (.if_icmp .ne 27, 3) := by decide +kernel
theorem dX4_clashes_53 : decode cX4_clashes 53 = .ok (.aload_n 0, 1) := by decide +kernel
theorem dX4_clashes_54 : decode cX4_clashes 54 = .ok (.getfield 23, 3) := by decide +kernel
theorem dX4_clashes_57 : decode cX4_clashes 57 = .ok (.iload 10, 2) := by decide +kernel
theorem dX4_clashes_59 : decode cX4_clashes 59 = .ok (.iaload, 1) := by decide +kernel
theorem dX4_clashes_60 : decode cX4_clashes 60 = .ok (.aload_n 0, 1) := by decide +kernel
theorem dX4_clashes_61 : decode cX4_clashes 61 = .ok (.getfield 23, 3) := by decide +kernel
theorem dX4_clashes_64 : decode cX4_clashes 64 = .ok (.iload_n 2, 1) := by decide +kernel
theorem dX4_clashes_65 : decode cX4_clashes 65 = .ok (.iaload, 1) := by decide +kernel
theorem dX4_clashes_66 : decode cX4_clashes 66 = .ok (.if_icmp .ne 7, 3) := by decide +kernel
theorem dX4_clashes_69 : decode cX4_clashes 69 = .ok (.iconst 1, 1) := by decide +kernel
theorem dX4_clashes_70 : decode cX4_clashes 70 = .ok (.goto 107, 3) := by decide +kernel
theorem dX4_clashes_73 : decode cX4_clashes 73 = .ok (.iconst 0, 1) := by decide +kernel
theorem dX4_clashes_74 : decode cX4_clashes 74 = .ok (.goto 103, 3) := by decide +kernel
theorem dX4_clashes_77 : decode cX4_clashes 77 = .ok (.iload_n 1, 1) := by decide +kernel
theorem dX4_clashes_78 : decode cX4_clashes 78 = .ok (.iconst 3, 1) := by decide +kernel
theorem dX4_clashes_79 : decode cX4_clashes 79 = .ok (.if_icmp .ne 75, 3) := by decide +kernel
theorem dX4_clashes_82 : decode cX4_clashes 82 = .ok (.aload_n 0, 1) := by decide +kernel
theorem dX4_clashes_83 : decode cX4_clashes 83 = .ok (.getfield 26, 3) := by decide +kernel
theorem dX4_clashes_86 : decode cX4_clashes 86 = .ok (.iload 10, 2) := by decide +kernel
theorem dX4_clashes_88 : decode cX4_clashes 88 = .ok (.iaload, 1) := by decide +kernel
theorem dX4_clashes_89 : decode cX4_clashes 89 = .ok (.aload_n 0, 1) := by decide +kernel
theorem dX4_clashes_90 : decode cX4_clashes 90 = .ok (.getfield 26, 3) := by decide +kernel
theorem dX4_clashes_93 : decode cX4_clashes 93 = .ok (.iload_n 2, 1) := by decide +kernel
theorem dX4_clashes_94 : decode cX4_clashes 94 = .ok (.iaload, 1) := by decide +kernel
theorem dX4_clashes_95 : decode cX4_clashes 95 = .ok (.if_icmp .eq 51, 3) := by decide +kernel
theorem dX4_clashes_98 : decode cX4_clashes 98 = .ok (.aload_n 0, 1) := by decide +kernel
theorem dX4_clashes_99 : decode cX4_clashes 99 = .ok (.getfield 26, 3) := by decide +kernel
theorem dX4_clashes_102 : decode cX4_clashes 102 = .ok (.iload 10, 2) := by decide +kernel
theorem dX4_clashes_104 : decode cX4_clashes 104 = .ok (.iaload, 1) := by decide +kernel
theorem dX4_clashes_105 : decode cX4_clashes 105 = .ok (.aload_n 0, 1) := by decide +kernel
theorem dX4_clashes_106 : decode cX4_clashes 106 = .ok (.getfield 29, 3) := by decide +kernel
theorem dX4_clashes_109 : decode cX4_clashes 109 = .ok (.iload_n 2, 1) := by decide +kernel
theorem dX4_clashes_110 : decode cX4_clashes 110 = .ok (.iaload, 1) := by decide +kernel
theorem dX4_clashes_111 : decode cX4_clashes 111 = .ok (.if_icmp .eq 35, 3) := by decide +kernel
theorem dX4_clashes_114 : decode cX4_clashes 114 = .ok (.aload_n 0, 1) := by decide +kernel
theorem dX4_clashes_115 : decode cX4_clashes 115 = .ok (.getfield 29, 3) := by decide +kernel
theorem dX4_clashes_118 : decode cX4_clashes 118 = .ok (.iload 10, 2) := by decide +kernel
theorem dX4_clashes_120 : decode cX4_clashes 120 = .ok (.iaload, 1) := by decide +kernel
theorem dX4_clashes_121 : decode cX4_clashes 121 = .ok (.aload_n 0, 1) := by decide +kernel
theorem dX4_clashes_122 : decode cX4_clashes 122 = .ok (.getfield 26, 3) := by decide +kernel
theorem dX4_clashes_125 : decode cX4_clashes 125 = .ok (.iload_n 2, 1) := by decide +kernel
theorem dX4_clashes_126 : decode cX4_clashes 126 = .ok (.iaload, 1) := by decide +kernel
theorem dX4_clashes_127 : decode cX4_clashes 127 = .ok (.if_icmp .eq 19, 3) := by decide +kernel
theorem dX4_clashes_130 : decode cX4_clashes 130 = .ok (.aload_n 0, 1) := by decide +kernel
theorem dX4_clashes_131 : decode cX4_clashes 131 = .ok (.getfield 29, 3) := by decide +kernel
theorem dX4_clashes_134 : decode cX4_clashes 134 = .ok (.iload 10, 2) := by decide +kernel
theorem dX4_clashes_136 : decode cX4_clashes 136 = .ok (.iaload, 1) := by decide +kernel
theorem dX4_clashes_137 : decode cX4_clashes 137 = .ok (.aload_n 0, 1) := by decide +kernel
theorem dX4_clashes_138 : decode cX4_clashes 138 = .ok (.getfield 29, 3) := by decide +kernel
theorem dX4_clashes_141 : decode cX4_clashes 141 = .ok (.iload_n 2, 1) := by decide +kernel
theorem dX4_clashes_142 : decode cX4_clashes 142 = .ok (.iaload, 1) := by decide +kernel
theorem dX4_clashes_143 : decode cX4_clashes 143 = .ok (.if_icmp .ne 7, 3) := by decide +kernel
theorem dX4_clashes_146 : decode cX4_clashes 146 = .ok (.iconst 1, 1) := by decide +kernel
theorem dX4_clashes_147 : decode cX4_clashes 147 = .ok (.goto 30, 3) := by decide +kernel
theorem dX4_clashes_150 : decode cX4_clashes 150 = .ok (.iconst 0, 1) := by decide +kernel
theorem dX4_clashes_151 : decode cX4_clashes 151 = .ok (.goto 26, 3) := by decide +kernel
theorem dX4_clashes_154 : decode cX4_clashes 154 = .ok (.iload 4, 2) := by decide +kernel
theorem dX4_clashes_156 : decode cX4_clashes 156 = .ok (.iconst (-1), 1) := by decide +kernel
theorem dX4_clashes_157 : decode cX4_clashes 157 = .ok (.if_icmp .eq 19, 3) := by decide +kernel
theorem dX4_clashes_160 : decode cX4_clashes 160 = .ok (.aload_n 0, 1) := by decide +kernel
theorem dX4_clashes_161 : decode cX4_clashes 161 = .ok (.getfield 50, 3) := by decide +kernel
theorem dX4_clashes_164 : decode cX4_clashes 164 = .ok (.iload 9, 2) := by decide +kernel
theorem dX4_clashes_166 : decode cX4_clashes 166 = .ok (.iaload, 1) := by decide +kernel
theorem dX4_clashes_167 : decode cX4_clashes 167 = .ok (.iload 4, 2) := by decide +kernel
theorem dX4_clashes_169 : decode cX4_clashes 169 = .ok (.if_icmp .ne 7, 3) := by decide +kernel
theorem dX4_clashes_172 : decode cX4_clashes 172 = .ok (.iconst 1, 1) := by decide +kernel
theorem dX4_clashes_173 : decode cX4_clashes 173 = .ok (.goto 4, 3) := by decide +kernel
theorem dX4_clashes_176 : decode cX4_clashes 176 = .ok (.iconst 0, 1) := by decide +kernel
theorem dX4_clashes_177 : decode cX4_clashes 177 = .ok (.istore 11, 2) := by decide +kernel
theorem dX4_clashes_179 : decode cX4_clashes 179 = .ok (.iload 8, 2) := by decide +kernel
theorem dX4_clashes_181 : decode cX4_clashes 181 = .ok (.ifCond .ne 49, 3) := by decide +kernel
theorem dX4_clashes_184 : decode cX4_clashes 184 = .ok (.iload 9, 2) := by decide +kernel
theorem dX4_clashes_186 : decode cX4_clashes 186 = .ok (.iload 7, 2) := by decide +kernel
theorem dX4_clashes_188 : decode cX4_clashes 188 = .ok (.if_icmp .eq 46, 3) := by decide +kernel
theorem dX4_clashes_191 : decode cX4_clashes 191 = .ok (.aload_n 0, 1) := by decide +kernel
theorem dX4_clashes_192 : decode cX4_clashes 192 = .ok (.getfield 41, 3) := by decide +kernel
theorem dX4_clashes_195 : decode cX4_clashes 195 = .ok (.iload 9, 2) := by decide +kernel
theorem dX4_clashes_197 : decode cX4_clashes 197 = .ok (.iaload, 1) := by decide +kernel
theorem dX4_clashes_198 : decode cX4_clashes 198 = .ok (.ifCond .ne 36, 3) := by decide +kernel
theorem dX4_clashes_201 : decode cX4_clashes 201 = .ok (.iload 11, 2) := by decide +kernel
theorem dX4_clashes_203 : decode cX4_clashes 203 = .ok (.ifCond .eq 31, 3) := by decide +kernel
theorem dX4_clashes_206 : decode cX4_clashes 206 = .ok (.aload_n 0, 1) := by decide +kernel
theorem dX4_clashes_207 : decode cX4_clashes 207 = .ok (.getfield 53, 3) := by decide +kernel
theorem dX4_clashes_210 : decode cX4_clashes 210 = .ok (.iload 9, 2) := by decide +kernel
theorem dX4_clashes_212 : decode cX4_clashes 212 = .ok (.iaload, 1) := by decide +kernel
theorem dX4_clashes_213 : decode cX4_clashes 213 = .ok (.aload_n 0, 1) := by decide +kernel
theorem dX4_clashes_214 : decode cX4_clashes 214 = .ok (.getfield 56, 3) := by decide +kernel
theorem dX4_clashes_217 : decode cX4_clashes 217 = .ok (.iload 9, 2) := by decide +kernel
theorem dX4_clashes_219 : decode cX4_clashes 219 = .ok (.iaload, 1) := by decide +kernel
theorem dX4_clashes_220 : decode cX4_clashes 220 = .ok (.iload 5, 2) := by decide +kernel
theorem dX4_clashes_222 : decode cX4_clashes 222 = .ok (.iload 6, 2) := by decide +kernel
theorem dX4_clashes_224 : decode cX4_clashes 224 = .ok (.invokestatic 96, 3) := by decide +kernel
theorem dX4_clashes_227 : decode cX4_clashes 227 = .ok (.ifCond .eq 7, 3) := by decide +kernel
theorem dX4_clashes_230 : decode cX4_clashes 230 = .ok (.iconst 1, 1) := by decide +kernel
theorem dX4_clashes_231 : decode cX4_clashes 231 = .ok (.goto 4, 3) := by decide +kernel
theorem dX4_clashes_234 : decode cX4_clashes 234 = .ok (.iconst 0, 1) := by decide +kernel
theorem dX4_clashes_235 : decode cX4_clashes 235 = .ok (.istore 8, 2) := by decide +kernel
theorem dX4_clashes_237 : decode cX4_clashes 237 = .ok (.iinc 9 1, 3) := by decide +kernel
theorem dX4_clashes_240 : decode cX4_clashes 240 = .ok (.goto (-234), 3) := by decide +kernel
theorem dX4_clashes_243 : decode cX4_clashes 243 = .ok (.iload 8, 2) := by decide +kernel
theorem dX4_clashes_245 : decode cX4_clashes 245 = .ok (.ireturn, 1) := by decide +kernel
theorem dX4_reason_0 : decode cX4_reason 0 = .ok (.iconst 1, 1) := by decide +kernel
theorem dX4_reason_1 : decode cX4_reason 1 = .ok (.istore 7, 2) := by decide +kernel
theorem dX4_reason_3 : decode cX4_reason 3 = .ok (.iload 7, 2) := by decide +kernel
theorem dX4_reason_5 : decode cX4_reason 5 = .ok (.iconst 5, 1) := by decide +kernel
theorem dX4_reason_6 : decode cX4_reason 6 = .ok (.if_icmp .ge 30, 3) := by decide +kernel
theorem dX4_reason_9 : decode cX4_reason 9 = .ok (.aload_n 0, 1) := by decide +kernel
theorem dX4_reason_10 : decode cX4_reason 10 = .ok (.iload 7, 2) := by decide +kernel
theorem dX4_reason_12 : decode cX4_reason 12 = .ok (.iload_n 1, 1) := by decide +kernel
theorem dX4_reason_13 : decode cX4_reason 13 = .ok (.iload_n 2, 1) := by decide +kernel
theorem dX4_reason_14 : decode cX4_reason 14 = .ok (.iload_n 3, 1) := by decide +kernel
theorem dX4_reason_15 : decode cX4_reason 15 = .ok (.iload 4, 2) := by decide +kernel
theorem dX4_reason_17 : decode cX4_reason 17 = .ok (.iload 5, 2) := by decide +kernel
theorem dX4_reason_19 : decode cX4_reason 19 = .ok (.iload 6, 2) := by decide +kernel
theorem dX4_reason_21 : decode cX4_reason 21 = .ok (.invokevirtual 100, 3) := by decide +kernel
theorem dX4_reason_24 : decode cX4_reason 24 = .ok (.ifCond .eq 6, 3) := by decide +kernel
theorem dX4_reason_27 : decode cX4_reason 27 = .ok (.iload 7, 2) := by decide +kernel
theorem dX4_reason_29 : decode cX4_reason 29 = .ok (.ireturn, 1) := by decide +kernel
theorem dX4_reason_30 : decode cX4_reason 30 = .ok (.iinc 7 1, 3) := by decide +kernel
theorem dX4_reason_33 : decode cX4_reason 33 = .ok (.goto (-30), 3) := by decide +kernel
theorem dX4_reason_36 : decode cX4_reason 36 = .ok (.iconst 0, 1) := by decide +kernel
theorem dX4_reason_37 : decode cX4_reason 37 = .ok (.ireturn, 1) := by decide +kernel
theorem dX4_fits_0 : decode cX4_fits 0 = .ok (.aload_n 0, 1) := by decide +kernel
theorem dX4_fits_1 : decode cX4_fits 1 = .ok (.getfield 32, 3) := by decide +kernel
theorem dX4_fits_4 : decode cX4_fits 4 = .ok (.iload_n 1, 1) := by decide +kernel
theorem dX4_fits_5 : decode cX4_fits 5 = .ok (.iaload, 1) := by decide +kernel
theorem dX4_fits_6 : decode cX4_fits 6 = .ok (.iconst (-1), 1) := by decide +kernel
theorem dX4_fits_7 : decode cX4_fits 7 = .ok (.if_icmp .ne 16, 3) := by decide +kernel
theorem dX4_fits_10 : decode cX4_fits 10 = .ok (.iload_n 2, 1) := by decide +kernel
theorem dX4_fits_11 : decode cX4_fits 11 = .ok (.iconst (-1), 1) := by decide +kernel
theorem dX4_fits_12 : decode cX4_fits 12 = .ok (.if_icmp .ne 7, 3) := by decide +kernel
theorem dX4_fits_15 : decode cX4_fits 15 = .ok (.iconst 1, 1) := by decide +kernel
theorem dX4_fits_16 : decode cX4_fits 16 = .ok (.goto 36, 3) := by decide +kernel
theorem dX4_fits_19 : decode cX4_fits 19 = .ok (.iconst 0, 1) := by decide +kernel
theorem dX4_fits_20 : decode cX4_fits 20 = .ok (.goto 32, 3) := by decide +kernel
theorem dX4_fits_23 : decode cX4_fits 23 = .ok (.iload_n 2, 1) := by decide +kernel
theorem dX4_fits_24 : decode cX4_fits 24 = .ok (.iconst (-1), 1) := by decide +kernel
theorem dX4_fits_25 : decode cX4_fits 25 = .ok (.if_icmp .eq 26, 3) := by decide +kernel
theorem dX4_fits_28 : decode cX4_fits 28 = .ok (.aload_n 0, 1) := by decide +kernel
theorem dX4_fits_29 : decode cX4_fits 29 = .ok (.getfield 7, 3) := by decide +kernel
theorem dX4_fits_32 : decode cX4_fits 32 = .ok (.iload_n 2, 1) := by decide +kernel
theorem dX4_fits_33 : decode cX4_fits 33 = .ok (.iaload, 1) := by decide +kernel
theorem dX4_fits_34 : decode cX4_fits 34 = .ok (.aload_n 0, 1) := by decide +kernel
theorem dX4_fits_35 : decode cX4_fits 35 = .ok (.getfield 32, 3) := by decide +kernel
theorem dX4_fits_38 : decode cX4_fits 38 = .ok (.iload_n 1, 1) := by decide +kernel
theorem dX4_fits_39 : decode cX4_fits 39 = .ok (.iaload, 1) := by decide +kernel
theorem dX4_fits_40 : decode cX4_fits 40 = .ok (.ishr, 1) := by decide +kernel
theorem dX4_fits_41 : decode cX4_fits 41 = .ok (.iconst 1, 1) := by decide +kernel
theorem dX4_fits_42 : decode cX4_fits 42 = .ok (.iand, 1) := by decide +kernel
theorem dX4_fits_43 : decode cX4_fits 43 = .ok (.iconst 1, 1) := by decide +kernel
theorem dX4_fits_44 : decode cX4_fits 44 = .ok (.if_icmp .ne 7, 3) := by decide +kernel
theorem dX4_fits_47 : decode cX4_fits 47 = .ok (.iconst 1, 1) := by decide +kernel
theorem dX4_fits_48 : decode cX4_fits 48 = .ok (.goto 4, 3) := by decide +kernel
theorem dX4_fits_51 : decode cX4_fits 51 = .ok (.iconst 0, 1) := by decide +kernel
theorem dX4_fits_52 : decode cX4_fits 52 = .ok (.ireturn, 1) := by decide +kernel
theorem dX4_isOpen_0 : decode cX4_isOpen 0 = .ok (.aload_n 0, 1) := by decide +kernel
theorem dX4_isOpen_1 : decode cX4_isOpen 1 = .ok (.getfield 20, 3) := by decide +kernel
theorem dX4_isOpen_4 : decode cX4_isOpen 4 = .ok (.iload_n 1, 1) := by decide +kernel
theorem dX4_isOpen_5 : decode cX4_isOpen 5 = .ok (.iaload, 1) := by decide +kernel
theorem dX4_isOpen_6 : decode cX4_isOpen 6 = .ok (.ifCond .eq 13, 3) := by decide +kernel
theorem dX4_isOpen_9 : decode cX4_isOpen 9 = .ok (.aload_n 0, 1) := by decide +kernel
theorem dX4_isOpen_10 : decode cX4_isOpen 10 = .ok (.getfield 20, 3) := by decide +kernel
theorem dX4_isOpen_13 : decode cX4_isOpen 13 = .ok (.iload_n 1, 1) := by decide +kernel
theorem dX4_isOpen_14 : decode cX4_isOpen 14 = .ok (.iaload, 1) := by decide +kernel
theorem dX4_isOpen_15 : decode cX4_isOpen 15 = .ok (.iconst 1, 1) := by decide +kernel
theorem dX4_isOpen_16 : decode cX4_isOpen 16 = .ok (.if_icmp .ne 7, 3) := by decide +kernel
theorem dX4_isOpen_19 : decode cX4_isOpen 19 = .ok (.iconst 1, 1) := by decide +kernel
theorem dX4_isOpen_20 : decode cX4_isOpen 20 = .ok (.goto 4, 3) := by decide +kernel
theorem dX4_isOpen_23 : decode cX4_isOpen 23 = .ok (.iconst 0, 1) := by decide +kernel
theorem dX4_isOpen_24 : decode cX4_isOpen 24 = .ok (.ireturn, 1) := by decide +kernel
theorem dX4_plan_0 : decode cX4_plan 0 = .ok (.aload_n 0, 1) := by decide +kernel
theorem dX4_plan_1 : decode cX4_plan 1 = .ok (.iload_n 1, 1) := by decide +kernel
theorem dX4_plan_2 : decode cX4_plan 2 = .ok (.invokevirtual 88, 3) := by decide +kernel
theorem dX4_plan_5 : decode cX4_plan 5 = .ok (.ifCond .eq 19, 3) := by decide +kernel
theorem dX4_plan_8 : decode cX4_plan 8 = .ok (.iload_n 2, 1) := by decide +kernel
theorem dX4_plan_9 : decode cX4_plan 9 = .ok (.iconst 0, 1) := by decide +kernel
theorem dX4_plan_10 : decode cX4_plan 10 = .ok (.iconst 3, 1) := by decide +kernel
theorem dX4_plan_11 : decode cX4_plan 11 = .ok (.invokestatic 78, 3) := by decide +kernel
theorem dX4_plan_14 : decode cX4_plan 14 = .ok (.ifCond .eq 10, 3) := by decide +kernel
theorem dX4_plan_17 : decode cX4_plan 17 = .ok (.iload_n 3, 1) := by decide +kernel
theorem dX4_plan_18 : decode cX4_plan 18 = .ok (.invokestatic 104, 3) := by decide +kernel
theorem dX4_plan_21 : decode cX4_plan 21 = .ok (.ifCond .ne 10, 3) := by decide +kernel
theorem dX4_plan_24 : decode cX4_plan 24 = .ok (.aload_n 0, 1) := by decide +kernel
theorem dX4_plan_25 : decode cX4_plan 25 = .ok (.iconst 1, 1) := by decide +kernel
theorem dX4_plan_26 : decode cX4_plan 26 = .ok (.putfield 71, 3) := by decide +kernel
theorem dX4_plan_29 : decode cX4_plan 29 = .ok (.iconst 0, 1) := by decide +kernel
theorem dX4_plan_30 : decode cX4_plan 30 = .ok (.ireturn, 1) := by decide +kernel
theorem dX4_plan_31 : decode cX4_plan 31 = .ok (.aload_n 0, 1) := by decide +kernel
theorem dX4_plan_32 : decode cX4_plan 32 = .ok (.iload 4, 2) := by decide +kernel
theorem dX4_plan_34 : decode cX4_plan 34 = .ok (.aload_n 0, 1) := by decide +kernel
theorem dX4_plan_35 : decode cX4_plan 35 = .ok (.getfield 85, 3) := by decide +kernel
theorem dX4_plan_38 : decode cX4_plan 38 = .ok (.iconst 1, 1) := by decide +kernel
theorem dX4_plan_39 : decode cX4_plan 39 = .ok (.iadd, 1) := by decide +kernel
theorem dX4_plan_40 : decode cX4_plan 40 = .ok (.sipush 999, 3) := by decide +kernel
theorem dX4_plan_43 : decode cX4_plan 43 = .ok (.invokestatic 78, 3) := by decide +kernel
theorem dX4_plan_46 : decode cX4_plan 46 = .ok (.ifCond .eq 13, 3) := by decide +kernel
theorem dX4_plan_49 : decode cX4_plan 49 = .ok (.iload 5, 2) := by decide +kernel
theorem dX4_plan_51 : decode cX4_plan 51 = .ok (.iconst 1, 1) := by decide +kernel
theorem dX4_plan_52 : decode cX4_plan 52 = .ok (.iconst 4, 1) := by decide +kernel
theorem dX4_plan_53 : decode cX4_plan 53 = .ok (.invokestatic 78, 3) := by decide +kernel
theorem dX4_plan_56 : decode cX4_plan 56 = .ok (.ifCond .ne 7, 3) := by decide +kernel
theorem dX4_plan_59 : decode cX4_plan 59 = .ok (.iconst 2, 1) := by decide +kernel
theorem dX4_plan_60 : decode cX4_plan 60 = .ok (.goto 49, 3) := by decide +kernel
theorem dX4_plan_63 : decode cX4_plan 63 = .ok (.aload_n 0, 1) := by decide +kernel
theorem dX4_plan_64 : decode cX4_plan 64 = .ok (.iload_n 1, 1) := by decide +kernel
theorem dX4_plan_65 : decode cX4_plan 65 = .ok (.invokevirtual 107, 3) := by decide +kernel
theorem dX4_plan_68 : decode cX4_plan 68 = .ok (.ifCond .eq 36, 3) := by decide +kernel
theorem dX4_plan_71 : decode cX4_plan 71 = .ok (.aload_n 0, 1) := by decide +kernel
theorem dX4_plan_72 : decode cX4_plan 72 = .ok (.iload_n 1, 1) := by decide +kernel
theorem dX4_plan_73 : decode cX4_plan 73 = .ok (.iload_n 3, 1) := by decide +kernel
theorem dX4_plan_74 : decode cX4_plan 74 = .ok (.invokevirtual 110, 3) := by decide +kernel
theorem dX4_plan_77 : decode cX4_plan 77 = .ok (.ifCond .eq 27, 3) := by decide +kernel
theorem dX4_plan_80 : decode cX4_plan 80 = .ok (.aload_n 0, 1) := by decide +kernel
theorem dX4_plan_81 : decode cX4_plan 81 = .ok (.getfield 82, 3) := by decide +kernel
theorem dX4_plan_84 : decode cX4_plan 84 = .ok (.bipush 24, 2) := by decide +kernel
theorem dX4_plan_86 : decode cX4_plan 86 = .ok (.if_icmp .eq 18, 3) := by decide +kernel
theorem dX4_plan_89 : decode cX4_plan 89 = .ok (.aload_n 0, 1) := by decide +kernel
theorem dX4_plan_90 : decode cX4_plan 90 = .ok (.iload_n 1, 1) := by decide +kernel
theorem dX4_plan_91 : decode cX4_plan 91 = .ok (.iload_n 2, 1) := by decide +kernel
theorem dX4_plan_92 : decode cX4_plan 92 = .ok (.iload_n 3, 1) := by decide +kernel
theorem dX4_plan_93 : decode cX4_plan 93 = .ok (.iload 4, 2) := by decide +kernel
theorem dX4_plan_95 : decode cX4_plan 95 = .ok (.iload 5, 2) := by decide +kernel
theorem dX4_plan_97 : decode cX4_plan 97 = .ok (.iconst (-1), 1) := by decide +kernel
theorem dX4_plan_98 : decode cX4_plan 98 = .ok (.invokevirtual 114, 3) := by decide +kernel
theorem dX4_plan_101 : decode cX4_plan 101 = .ok (.ifCond .le 7, 3) := by decide +kernel
theorem dX4_plan_104 : decode cX4_plan 104 = .ok (.iconst 3, 1) := by decide +kernel
theorem dX4_plan_105 : decode cX4_plan 105 = .ok (.goto 4, 3) := by decide +kernel
theorem dX4_plan_108 : decode cX4_plan 108 = .ok (.iconst 0, 1) := by decide +kernel
theorem dX4_plan_109 : decode cX4_plan 109 = .ok (.putfield 71, 3) := by decide +kernel
theorem dX4_plan_112 : decode cX4_plan 112 = .ok (.aload_n 0, 1) := by decide +kernel
theorem dX4_plan_113 : decode cX4_plan 113 = .ok (.getfield 71, 3) := by decide +kernel
theorem dX4_plan_116 : decode cX4_plan 116 = .ok (.ifCond .le 5, 3) := by decide +kernel
theorem dX4_plan_119 : decode cX4_plan 119 = .ok (.iconst 0, 1) := by decide +kernel
theorem dX4_plan_120 : decode cX4_plan 120 = .ok (.ireturn, 1) := by decide +kernel
theorem dX4_plan_121 : decode cX4_plan 121 = .ok (.aload_n 0, 1) := by decide +kernel
theorem dX4_plan_122 : decode cX4_plan 122 = .ok (.getfield 82, 3) := by decide +kernel
theorem dX4_plan_125 : decode cX4_plan 125 = .ok (.istore 6, 2) := by decide +kernel
theorem dX4_plan_127 : decode cX4_plan 127 = .ok (.aload_n 0, 1) := by decide +kernel
theorem dX4_plan_128 : decode cX4_plan 128 = .ok (.dup, 1) := by decide +kernel
theorem dX4_plan_129 : decode cX4_plan 129 = .ok (.getfield 82, 3) := by decide +kernel
theorem dX4_plan_132 : decode cX4_plan 132 = .ok (.iconst 1, 1) := by decide +kernel
theorem dX4_plan_133 : decode cX4_plan 133 = .ok (.iadd, 1) := by decide +kernel
theorem dX4_plan_134 : decode cX4_plan 134 = .ok (.putfield 82, 3) := by decide +kernel
theorem dX4_plan_137 : decode cX4_plan 137 = .ok (.aload_n 0, 1) := by decide +kernel
theorem dX4_plan_138 : decode cX4_plan 138 = .ok (.getfield 44, 3) := by decide +kernel
theorem dX4_plan_141 : decode cX4_plan 141 = .ok (.iload 6, 2) := by decide +kernel
theorem dX4_plan_143 : decode cX4_plan 143 = .ok (.iload_n 1, 1) := by decide +kernel
theorem dX4_plan_144 : decode cX4_plan 144 = .ok (.iastore, 1) := by decide +kernel
theorem dX4_plan_145 : decode cX4_plan 145 = .ok (.aload_n 0, 1) := by decide +kernel
theorem dX4_plan_146 : decode cX4_plan 146 = .ok (.getfield 47, 3) := by decide +kernel
theorem dX4_plan_149 : decode cX4_plan 149 = .ok (.iload 6, 2) := by decide +kernel
theorem dX4_plan_151 : decode cX4_plan 151 = .ok (.iload_n 2, 1) := by decide +kernel
theorem dX4_plan_152 : decode cX4_plan 152 = .ok (.iastore, 1) := by decide +kernel
theorem dX4_plan_153 : decode cX4_plan 153 = .ok (.aload_n 0, 1) := by decide +kernel
theorem dX4_plan_154 : decode cX4_plan 154 = .ok (.getfield 50, 3) := by decide +kernel
theorem dX4_plan_157 : decode cX4_plan 157 = .ok (.iload 6, 2) := by decide +kernel
theorem dX4_plan_159 : decode cX4_plan 159 = .ok (.iload_n 3, 1) := by decide +kernel
theorem dX4_plan_160 : decode cX4_plan 160 = .ok (.iastore, 1) := by decide +kernel
theorem dX4_plan_161 : decode cX4_plan 161 = .ok (.aload_n 0, 1) := by decide +kernel
theorem dX4_plan_162 : decode cX4_plan 162 = .ok (.getfield 53, 3) := by decide +kernel
theorem dX4_plan_165 : decode cX4_plan 165 = .ok (.iload 6, 2) := by decide +kernel
theorem dX4_plan_167 : decode cX4_plan 167 = .ok (.iload 4, 2) := by decide +kernel
theorem dX4_plan_169 : decode cX4_plan 169 = .ok (.iastore, 1) := by decide +kernel
theorem dX4_plan_170 : decode cX4_plan 170 = .ok (.aload_n 0, 1) := by decide +kernel
theorem dX4_plan_171 : decode cX4_plan 171 = .ok (.getfield 56, 3) := by decide +kernel
theorem dX4_plan_174 : decode cX4_plan 174 = .ok (.iload 6, 2) := by decide +kernel
theorem dX4_plan_176 : decode cX4_plan 176 = .ok (.iload 5, 2) := by decide +kernel
theorem dX4_plan_178 : decode cX4_plan 178 = .ok (.iastore, 1) := by decide +kernel
theorem dX4_plan_179 : decode cX4_plan 179 = .ok (.aload_n 0, 1) := by decide +kernel
theorem dX4_plan_180 : decode cX4_plan 180 = .ok (.iload 6, 2) := by decide +kernel
theorem dX4_plan_182 : decode cX4_plan 182 = .ok (.invokevirtual 118, 3) := by decide +kernel
theorem dX4_plan_185 : decode cX4_plan 185 = .ok (.iload 6, 2) := by decide +kernel
theorem dX4_plan_187 : decode cX4_plan 187 = .ok (.ireturn, 1) := by decide +kernel
theorem dX4_move_0 : decode cX4_move 0 = .ok (.aload_n 0, 1) := by decide +kernel
theorem dX4_move_1 : decode cX4_move 1 = .ok (.iload_n 1, 1) := by decide +kernel
theorem dX4_move_2 : decode cX4_move 2 = .ok (.invokevirtual 121, 3) := by decide +kernel
theorem dX4_move_5 : decode cX4_move 5 = .ok (.ifCond .eq 19, 3) := by decide +kernel
theorem dX4_move_8 : decode cX4_move 8 = .ok (.iload_n 2, 1) := by decide +kernel
theorem dX4_move_9 : decode cX4_move 9 = .ok (.iconst 0, 1) := by decide +kernel
theorem dX4_move_10 : decode cX4_move 10 = .ok (.iconst 3, 1) := by decide +kernel
theorem dX4_move_11 : decode cX4_move 11 = .ok (.invokestatic 78, 3) := by decide +kernel
theorem dX4_move_14 : decode cX4_move 14 = .ok (.ifCond .eq 10, 3) := by decide +kernel
theorem dX4_move_17 : decode cX4_move 17 = .ok (.iload_n 3, 1) := by decide +kernel
theorem dX4_move_18 : decode cX4_move 18 = .ok (.invokestatic 104, 3) := by decide +kernel
theorem dX4_move_21 : decode cX4_move 21 = .ok (.ifCond .ne 10, 3) := by decide +kernel
theorem dX4_move_24 : decode cX4_move 24 = .ok (.aload_n 0, 1) := by decide +kernel
theorem dX4_move_25 : decode cX4_move 25 = .ok (.iconst 1, 1) := by decide +kernel
theorem dX4_move_26 : decode cX4_move 26 = .ok (.putfield 71, 3) := by decide +kernel
theorem dX4_move_29 : decode cX4_move 29 = .ok (.iconst 0, 1) := by decide +kernel
theorem dX4_move_30 : decode cX4_move 30 = .ok (.ireturn, 1) := by decide +kernel
theorem dX4_move_31 : decode cX4_move 31 = .ok (.aload_n 0, 1) := by decide +kernel
theorem dX4_move_32 : decode cX4_move 32 = .ok (.getfield 44, 3) := by decide +kernel
theorem dX4_move_35 : decode cX4_move 35 = .ok (.iload_n 1, 1) := by decide +kernel
theorem dX4_move_36 : decode cX4_move 36 = .ok (.iaload, 1) := by decide +kernel
theorem dX4_move_37 : decode cX4_move 37 = .ok (.istore 5, 2) := by decide +kernel
theorem dX4_move_39 : decode cX4_move 39 = .ok (.aload_n 0, 1) := by decide +kernel
theorem dX4_move_40 : decode cX4_move 40 = .ok (.iload 4, 2) := by decide +kernel
theorem dX4_move_42 : decode cX4_move 42 = .ok (.aload_n 0, 1) := by decide +kernel
theorem dX4_move_43 : decode cX4_move 43 = .ok (.getfield 85, 3) := by decide +kernel
theorem dX4_move_46 : decode cX4_move 46 = .ok (.iconst 1, 1) := by decide +kernel
theorem dX4_move_47 : decode cX4_move 47 = .ok (.iadd, 1) := by decide +kernel
theorem dX4_move_48 : decode cX4_move 48 = .ok (.sipush 999, 3) := by decide +kernel
theorem dX4_move_51 : decode cX4_move 51 = .ok (.invokestatic 78, 3) := by decide +kernel
theorem dX4_move_54 : decode cX4_move 54 = .ok (.ifCond .ne 7, 3) := by decide +kernel
theorem dX4_move_57 : decode cX4_move 57 = .ok (.iconst 2, 1) := by decide +kernel
theorem dX4_move_58 : decode cX4_move 58 = .ok (.goto 60, 3) := by decide +kernel
theorem dX4_move_61 : decode cX4_move 61 = .ok (.aload_n 0, 1) := by decide +kernel
theorem dX4_move_62 : decode cX4_move 62 = .ok (.getfield 41, 3) := by decide +kernel
theorem dX4_move_65 : decode cX4_move 65 = .ok (.iload_n 1, 1) := by decide +kernel
theorem dX4_move_66 : decode cX4_move 66 = .ok (.iaload, 1) := by decide +kernel
theorem dX4_move_67 : decode cX4_move 67 = .ok (.ifCond .ne 46, 3) := by decide +kernel
theorem dX4_move_70 : decode cX4_move 70 = .ok (.aload_n 0, 1) := by decide +kernel
theorem dX4_move_71 : decode cX4_move 71 = .ok (.getfield 53, 3) := by decide +kernel
theorem dX4_move_74 : decode cX4_move 74 = .ok (.iload_n 1, 1) := by decide +kernel
theorem dX4_move_75 : decode cX4_move 75 = .ok (.iaload, 1) := by decide +kernel
theorem dX4_move_76 : decode cX4_move 76 = .ok (.aload_n 0, 1) := by decide +kernel
theorem dX4_move_77 : decode cX4_move 77 = .ok (.getfield 85, 3) := by decide +kernel
theorem dX4_move_80 : decode cX4_move 80 = .ok (.if_icmp .le 33, 3) := by decide +kernel
theorem dX4_move_83 : decode cX4_move 83 = .ok (.aload_n 0, 1) := by decide +kernel
theorem dX4_move_84 : decode cX4_move 84 = .ok (.iload 5, 2) := by decide +kernel
theorem dX4_move_86 : decode cX4_move 86 = .ok (.iload_n 3, 1) := by decide +kernel
theorem dX4_move_87 : decode cX4_move 87 = .ok (.invokevirtual 110, 3) := by decide +kernel
theorem dX4_move_90 : decode cX4_move 90 = .ok (.ifCond .eq 23, 3) := by decide +kernel
theorem dX4_move_93 : decode cX4_move 93 = .ok (.aload_n 0, 1) := by decide +kernel
theorem dX4_move_94 : decode cX4_move 94 = .ok (.iload 5, 2) := by decide +kernel
theorem dX4_move_96 : decode cX4_move 96 = .ok (.iload_n 2, 1) := by decide +kernel
theorem dX4_move_97 : decode cX4_move 97 = .ok (.iload_n 3, 1) := by decide +kernel
theorem dX4_move_98 : decode cX4_move 98 = .ok (.iload 4, 2) := by decide +kernel
theorem dX4_move_100 : decode cX4_move 100 = .ok (.aload_n 0, 1) := by decide +kernel
theorem dX4_move_101 : decode cX4_move 101 = .ok (.getfield 56, 3) := by decide +kernel
theorem dX4_move_104 : decode cX4_move 104 = .ok (.iload_n 1, 1) := by decide +kernel
theorem dX4_move_105 : decode cX4_move 105 = .ok (.iaload, 1) := by decide +kernel
theorem dX4_move_106 : decode cX4_move 106 = .ok (.iload_n 1, 1) := by decide +kernel
theorem dX4_move_107 : decode cX4_move 107 = .ok (.invokevirtual 114, 3) := by decide +kernel
theorem dX4_move_110 : decode cX4_move 110 = .ok (.ifCond .le 7, 3) := by decide +kernel
theorem dX4_move_113 : decode cX4_move 113 = .ok (.iconst 3, 1) := by decide +kernel
theorem dX4_move_114 : decode cX4_move 114 = .ok (.goto 4, 3) := by decide +kernel
theorem dX4_move_117 : decode cX4_move 117 = .ok (.iconst 0, 1) := by decide +kernel
theorem dX4_move_118 : decode cX4_move 118 = .ok (.putfield 71, 3) := by decide +kernel
theorem dX4_move_121 : decode cX4_move 121 = .ok (.aload_n 0, 1) := by decide +kernel
theorem dX4_move_122 : decode cX4_move 122 = .ok (.getfield 71, 3) := by decide +kernel
theorem dX4_move_125 : decode cX4_move 125 = .ok (.ifCond .le 5, 3) := by decide +kernel
theorem dX4_move_128 : decode cX4_move 128 = .ok (.iconst 0, 1) := by decide +kernel
theorem dX4_move_129 : decode cX4_move 129 = .ok (.ireturn, 1) := by decide +kernel
theorem dX4_move_130 : decode cX4_move 130 = .ok (.aload_n 0, 1) := by decide +kernel
theorem dX4_move_131 : decode cX4_move 131 = .ok (.iload_n 1, 1) := by decide +kernel
theorem dX4_move_132 : decode cX4_move 132 = .ok (.invokevirtual 92, 3) := by decide +kernel
theorem dX4_move_135 : decode cX4_move 135 = .ok (.aload_n 0, 1) := by decide +kernel
theorem dX4_move_136 : decode cX4_move 136 = .ok (.getfield 47, 3) := by decide +kernel
theorem dX4_move_139 : decode cX4_move 139 = .ok (.iload_n 1, 1) := by decide +kernel
theorem dX4_move_140 : decode cX4_move 140 = .ok (.iload_n 2, 1) := by decide +kernel
theorem dX4_move_141 : decode cX4_move 141 = .ok (.iastore, 1) := by decide +kernel
theorem dX4_move_142 : decode cX4_move 142 = .ok (.aload_n 0, 1) := by decide +kernel
theorem dX4_move_143 : decode cX4_move 143 = .ok (.getfield 50, 3) := by decide +kernel
theorem dX4_move_146 : decode cX4_move 146 = .ok (.iload_n 1, 1) := by decide +kernel
theorem dX4_move_147 : decode cX4_move 147 = .ok (.iload_n 3, 1) := by decide +kernel
theorem dX4_move_148 : decode cX4_move 148 = .ok (.iastore, 1) := by decide +kernel
theorem dX4_move_149 : decode cX4_move 149 = .ok (.aload_n 0, 1) := by decide +kernel
theorem dX4_move_150 : decode cX4_move 150 = .ok (.getfield 53, 3) := by decide +kernel
theorem dX4_move_153 : decode cX4_move 153 = .ok (.iload_n 1, 1) := by decide +kernel
theorem dX4_move_154 : decode cX4_move 154 = .ok (.iload 4, 2) := by decide +kernel
theorem dX4_move_156 : decode cX4_move 156 = .ok (.iastore, 1) := by decide +kernel
theorem dX4_move_157 : decode cX4_move 157 = .ok (.aload_n 0, 1) := by decide +kernel
theorem dX4_move_158 : decode cX4_move 158 = .ok (.getfield 59, 3) := by decide +kernel
theorem dX4_move_161 : decode cX4_move 161 = .ok (.iload_n 1, 1) := by decide +kernel
theorem dX4_move_162 : decode cX4_move 162 = .ok (.iconst 0, 1) := by decide +kernel
theorem dX4_move_163 : decode cX4_move 163 = .ok (.iastore, 1) := by decide +kernel
theorem dX4_move_164 : decode cX4_move 164 = .ok (.aload_n 0, 1) := by decide +kernel
theorem dX4_move_165 : decode cX4_move 165 = .ok (.iload_n 1, 1) := by decide +kernel
theorem dX4_move_166 : decode cX4_move 166 = .ok (.invokevirtual 118, 3) := by decide +kernel
theorem dX4_move_169 : decode cX4_move 169 = .ok (.aload_n 0, 1) := by decide +kernel
theorem dX4_move_170 : decode cX4_move 170 = .ok (.getfield 35, 3) := by decide +kernel
theorem dX4_move_173 : decode cX4_move 173 = .ok (.iload 5, 2) := by decide +kernel
theorem dX4_move_175 : decode cX4_move 175 = .ok (.iaload, 1) := by decide +kernel
theorem dX4_move_176 : decode cX4_move 176 = .ok (.ireturn, 1) := by decide +kernel
theorem dX4_drop_0 : decode cX4_drop 0 = .ok (.aload_n 0, 1) := by decide +kernel
theorem dX4_drop_1 : decode cX4_drop 1 = .ok (.aload_n 0, 1) := by decide +kernel
theorem dX4_drop_2 : decode cX4_drop 2 = .ok (.iload_n 1, 1) := by decide +kernel
theorem dX4_drop_3 : decode cX4_drop 3 = .ok (.invokevirtual 121, 3) := by decide +kernel
theorem dX4_drop_6 : decode cX4_drop 6 = .ok (.ifCond .ne 7, 3) := by decide +kernel
theorem dX4_drop_9 : decode cX4_drop 9 = .ok (.iconst 1, 1) := by decide +kernel
theorem dX4_drop_10 : decode cX4_drop 10 = .ok (.goto 30, 3) := by decide +kernel
theorem dX4_drop_13 : decode cX4_drop 13 = .ok (.aload_n 0, 1) := by decide +kernel
theorem dX4_drop_14 : decode cX4_drop 14 = .ok (.getfield 41, 3) := by decide +kernel
theorem dX4_drop_17 : decode cX4_drop 17 = .ok (.iload_n 1, 1) := by decide +kernel
theorem dX4_drop_18 : decode cX4_drop 18 = .ok (.iaload, 1) := by decide +kernel
theorem dX4_drop_19 : decode cX4_drop 19 = .ok (.ifCond .ne 16, 3) := by decide +kernel
theorem dX4_drop_22 : decode cX4_drop 22 = .ok (.aload_n 0, 1) := by decide +kernel
theorem dX4_drop_23 : decode cX4_drop 23 = .ok (.getfield 53, 3) := by decide +kernel
theorem dX4_drop_26 : decode cX4_drop 26 = .ok (.iload_n 1, 1) := by decide +kernel
theorem dX4_drop_27 : decode cX4_drop 27 = .ok (.iaload, 1) := by decide +kernel
theorem dX4_drop_28 : decode cX4_drop 28 = .ok (.aload_n 0, 1) := by decide +kernel
theorem dX4_drop_29 : decode cX4_drop 29 = .ok (.getfield 85, 3) := by decide +kernel
theorem dX4_drop_32 : decode cX4_drop 32 = .ok (.if_icmp .gt 7, 3) := by decide +kernel
theorem dX4_drop_35 : decode cX4_drop 35 = .ok (.iconst 2, 1) := by decide +kernel
theorem dX4_drop_36 : decode cX4_drop 36 = .ok (.goto 4, 3) := by decide +kernel
theorem dX4_drop_39 : decode cX4_drop 39 = .ok (.iconst 0, 1) := by decide +kernel
theorem dX4_drop_40 : decode cX4_drop 40 = .ok (.putfield 71, 3) := by decide +kernel
theorem dX4_drop_43 : decode cX4_drop 43 = .ok (.aload_n 0, 1) := by decide +kernel
theorem dX4_drop_44 : decode cX4_drop 44 = .ok (.getfield 71, 3) := by decide +kernel
theorem dX4_drop_47 : decode cX4_drop 47 = .ok (.ifCond .le 5, 3) := by decide +kernel
theorem dX4_drop_50 : decode cX4_drop 50 = .ok (.iconst 0, 1) := by decide +kernel
theorem dX4_drop_51 : decode cX4_drop 51 = .ok (.ireturn, 1) := by decide +kernel
theorem dX4_drop_52 : decode cX4_drop 52 = .ok (.aload_n 0, 1) := by decide +kernel
theorem dX4_drop_53 : decode cX4_drop 53 = .ok (.iload_n 1, 1) := by decide +kernel
theorem dX4_drop_54 : decode cX4_drop 54 = .ok (.invokevirtual 92, 3) := by decide +kernel
theorem dX4_drop_57 : decode cX4_drop 57 = .ok (.aload_n 0, 1) := by decide +kernel
theorem dX4_drop_58 : decode cX4_drop 58 = .ok (.getfield 41, 3) := by decide +kernel
theorem dX4_drop_61 : decode cX4_drop 61 = .ok (.iload_n 1, 1) := by decide +kernel
theorem dX4_drop_62 : decode cX4_drop 62 = .ok (.iconst 3, 1) := by decide +kernel
theorem dX4_drop_63 : decode cX4_drop 63 = .ok (.iastore, 1) := by decide +kernel
theorem dX4_drop_64 : decode cX4_drop 64 = .ok (.aload_n 0, 1) := by decide +kernel
theorem dX4_drop_65 : decode cX4_drop 65 = .ok (.getfield 35, 3) := by decide +kernel
theorem dX4_drop_68 : decode cX4_drop 68 = .ok (.aload_n 0, 1) := by decide +kernel
theorem dX4_drop_69 : decode cX4_drop 69 = .ok (.getfield 44, 3) := by decide +kernel
theorem dX4_drop_72 : decode cX4_drop 72 = .ok (.iload_n 1, 1) := by decide +kernel
theorem dX4_drop_73 : decode cX4_drop 73 = .ok (.iaload, 1) := by decide +kernel
theorem dX4_drop_74 : decode cX4_drop 74 = .ok (.iaload, 1) := by decide +kernel
theorem dX4_drop_75 : decode cX4_drop 75 = .ok (.ireturn, 1) := by decide +kernel
theorem dX4_notice_0 : decode cX4_notice 0 = .ok (.aload_n 0, 1) := by decide +kernel
theorem dX4_notice_1 : decode cX4_notice 1 = .ok (.iload_n 1, 1) := by decide +kernel
theorem dX4_notice_2 : decode cX4_notice 2 = .ok (.invokevirtual 121, 3) := by decide +kernel
theorem dX4_notice_5 : decode cX4_notice 5 = .ok (.ifCond .eq 12, 3) := by decide +kernel
theorem dX4_notice_8 : decode cX4_notice 8 = .ok (.iload_n 2, 1) := by decide +kernel
theorem dX4_notice_9 : decode cX4_notice 9 = .ok (.iconst 0, 1) := by decide +kernel
theorem dX4_notice_10 : decode cX4_notice 10 = .ok (.iconst 5, 1) := by decide +kernel
theorem dX4_notice_11 : decode cX4_notice 11 = .ok (.invokestatic 78, 3) := by decide +kernel
theorem dX4_notice_14 : decode cX4_notice 14 = .ok (.ifCond .ne 10, 3) := by decide +kernel
theorem dX4_notice_17 : decode cX4_notice 17 = .ok (.aload_n 0, 1) := by decide +kernel
theorem dX4_notice_18 : decode cX4_notice 18 = .ok (.iconst 1, 1) := by decide +kernel
theorem dX4_notice_19 : decode cX4_notice 19 = .ok (.putfield 71, 3) := by decide +kernel
theorem dX4_notice_22 : decode cX4_notice 22 = .ok (.iconst 0, 1) := by decide +kernel
theorem dX4_notice_23 : decode cX4_notice 23 = .ok (.ireturn, 1) := by decide +kernel
theorem dX4_notice_24 : decode cX4_notice 24 = .ok (.aload_n 0, 1) := by decide +kernel
theorem dX4_notice_25 : decode cX4_notice 25 = .ok (.getfield 26, 3) := by decide +kernel
theorem dX4_notice_28 : decode cX4_notice 28 = .ok (.aload_n 0, 1) := by decide +kernel
theorem dX4_notice_29 : decode cX4_notice 29 = .ok (.getfield 44, 3) := by decide +kernel
theorem dX4_notice_32 : decode cX4_notice 32 = .ok (.iload_n 1, 1) := by decide +kernel
theorem dX4_notice_33 : decode cX4_notice 33 = .ok (.iaload, 1) := by decide +kernel
theorem dX4_notice_34 : decode cX4_notice 34 = .ok (.iaload, 1) := by decide +kernel
theorem dX4_notice_35 : decode cX4_notice 35 = .ok (.iload_n 2, 1) := by decide +kernel
theorem dX4_notice_36 : decode cX4_notice 36 = .ok (.if_icmp .ne 7, 3) := by decide +kernel
theorem dX4_notice_39 : decode cX4_notice 39 = .ok (.iconst 1, 1) := by decide +kernel
theorem dX4_notice_40 : decode cX4_notice 40 = .ok (.goto 4, 3) := by decide +kernel
theorem dX4_notice_43 : decode cX4_notice 43 = .ok (.iconst 0, 1) := by decide +kernel
theorem dX4_notice_44 : decode cX4_notice 44 = .ok (.istore_n 3, 1) := by decide +kernel
theorem dX4_notice_45 : decode cX4_notice 45 = .ok (.aload_n 0, 1) := by decide +kernel
theorem dX4_notice_46 : decode cX4_notice 46 = .ok (.iload_n 3, 1) := by decide +kernel
theorem dX4_notice_47 : decode cX4_notice 47 = .ok (.ifCond .ne 22, 3) := by decide +kernel
theorem dX4_notice_50 : decode cX4_notice 50 = .ok (.aload_n 0, 1) := by decide +kernel
theorem dX4_notice_51 : decode cX4_notice 51 = .ok (.getfield 29, 3) := by decide +kernel
theorem dX4_notice_54 : decode cX4_notice 54 = .ok (.aload_n 0, 1) := by decide +kernel
theorem dX4_notice_55 : decode cX4_notice 55 = .ok (.getfield 44, 3) := by decide +kernel
theorem dX4_notice_58 : decode cX4_notice 58 = .ok (.iload_n 1, 1) := by decide +kernel
theorem dX4_notice_59 : decode cX4_notice 59 = .ok (.iaload, 1) := by decide +kernel
theorem dX4_notice_60 : decode cX4_notice 60 = .ok (.iaload, 1) := by decide +kernel
theorem dX4_notice_61 : decode cX4_notice 61 = .ok (.iload_n 2, 1) := by decide +kernel
theorem dX4_notice_62 : decode cX4_notice 62 = .ok (.if_icmp .eq 7, 3) := by decide +kernel
theorem dX4_notice_65 : decode cX4_notice 65 = .ok (.iconst 2, 1) := by decide +kernel
theorem dX4_notice_66 : decode cX4_notice 66 = .ok (.goto 17, 3) := by decide +kernel
theorem dX4_notice_69 : decode cX4_notice 69 = .ok (.aload_n 0, 1) := by decide +kernel
theorem dX4_notice_70 : decode cX4_notice 70 = .ok (.getfield 41, 3) := by decide +kernel
theorem dX4_notice_73 : decode cX4_notice 73 = .ok (.iload_n 1, 1) := by decide +kernel
theorem dX4_notice_74 : decode cX4_notice 74 = .ok (.iaload, 1) := by decide +kernel
theorem dX4_notice_75 : decode cX4_notice 75 = .ok (.ifCond .eq 7, 3) := by decide +kernel
theorem dX4_notice_78 : decode cX4_notice 78 = .ok (.iconst 3, 1) := by decide +kernel
theorem dX4_notice_79 : decode cX4_notice 79 = .ok (.goto 4, 3) := by decide +kernel
theorem dX4_notice_82 : decode cX4_notice 82 = .ok (.iconst 0, 1) := by decide +kernel
theorem dX4_notice_83 : decode cX4_notice 83 = .ok (.putfield 71, 3) := by decide +kernel
theorem dX4_notice_86 : decode cX4_notice 86 = .ok (.aload_n 0, 1) := by decide +kernel
theorem dX4_notice_87 : decode cX4_notice 87 = .ok (.getfield 71, 3) := by decide +kernel
theorem dX4_notice_90 : decode cX4_notice 90 = .ok (.ifCond .le 5, 3) := by decide +kernel
theorem dX4_notice_93 : decode cX4_notice 93 = .ok (.iconst 0, 1) := by decide +kernel
theorem dX4_notice_94 : decode cX4_notice 94 = .ok (.ireturn, 1) := by decide +kernel
theorem dX4_notice_95 : decode cX4_notice 95 = .ok (.aload_n 0, 1) := by decide +kernel
theorem dX4_notice_96 : decode cX4_notice 96 = .ok (.getfield 53, 3) := by decide +kernel
theorem dX4_notice_99 : decode cX4_notice 99 = .ok (.iload_n 1, 1) := by decide +kernel
theorem dX4_notice_100 : decode cX4_notice 100 = .ok (.iaload, 1) := by decide +kernel
theorem dX4_notice_101 : decode cX4_notice 101 = .ok (.aload_n 0, 1) := by decide +kernel
theorem dX4_notice_102 : decode cX4_notice 102 = .ok (.getfield 85, 3) := by decide +kernel
theorem dX4_notice_105 : decode cX4_notice 105 = .ok (.isub, 1) := by decide +kernel
theorem dX4_notice_106 : decode cX4_notice 106 = .ok (.iconst 4, 1) := by decide +kernel
theorem dX4_notice_107 : decode cX4_notice 107 = .ok (.if_icmp .lt 7, 3) := by decide +kernel
theorem dX4_notice_110 : decode cX4_notice 110 = .ok (.iconst 1, 1) := by decide +kernel
theorem dX4_notice_111 : decode cX4_notice 111 = .ok (.goto 4, 3) := by decide +kernel
theorem dX4_notice_114 : decode cX4_notice 114 = .ok (.iconst 0, 1) := by decide +kernel
theorem dX4_notice_115 : decode cX4_notice 115 = .ok (.istore 4, 2) := by decide +kernel
theorem dX4_notice_117 : decode cX4_notice 117 = .ok (.aload_n 0, 1) := by decide +kernel
theorem dX4_notice_118 : decode cX4_notice 118 = .ok (.getfield 59, 3) := by decide +kernel
theorem dX4_notice_121 : decode cX4_notice 121 = .ok (.iload_n 1, 1) := by decide +kernel
theorem dX4_notice_122 : decode cX4_notice 122 = .ok (.dup2, 1) := by decide +kernel
theorem dX4_notice_123 : decode cX4_notice 123 = .ok (.iaload, 1) := by decide +kernel
theorem dX4_notice_124 : decode cX4_notice 124 = .ok (.iload 4, 2) := by decide +kernel
theorem dX4_notice_126 : decode cX4_notice 126 = .ok (.ifCond .eq 15, 3) := by decide +kernel
theorem dX4_notice_129 : decode cX4_notice 129 = .ok (.iload_n 3, 1) := by decide +kernel
theorem dX4_notice_130 : decode cX4_notice 130 = .ok (.ifCond .eq 7, 3) := by decide +kernel
theorem dX4_notice_133 : decode cX4_notice 133 = .ok (.iconst 1, 1) := by decide +kernel
theorem dX4_notice_134 : decode cX4_notice 134 = .ok (.goto 8, 3) := by decide +kernel
theorem dX4_notice_137 : decode cX4_notice 137 = .ok (.iconst 2, 1) := by decide +kernel
theorem dX4_notice_138 : decode cX4_notice 138 = .ok (.goto 4, 3) := by decide +kernel
theorem dX4_notice_141 : decode cX4_notice 141 = .ok (.iconst 0, 1) := by decide +kernel
theorem dX4_notice_142 : decode cX4_notice 142 = .ok (.ior, 1) := by decide +kernel
theorem dX4_notice_143 : decode cX4_notice 143 = .ok (.iastore, 1) := by decide +kernel
theorem dX4_notice_144 : decode cX4_notice 144 = .ok (.iload 4, 2) := by decide +kernel
theorem dX4_notice_146 : decode cX4_notice 146 = .ok (.ireturn, 1) := by decide +kernel
theorem dX4_ends_0 : decode cX4_ends 0 = .ok (.iconst 0, 1) := by decide +kernel
theorem dX4_ends_1 : decode cX4_ends 1 = .ok (.istore_n 1, 1) := by decide +kernel
theorem dX4_ends_2 : decode cX4_ends 2 = .ok (.iconst 0, 1) := by decide +kernel
theorem dX4_ends_3 : decode cX4_ends 3 = .ok (.istore_n 2, 1) := by decide +kernel
theorem dX4_ends_4 : decode cX4_ends 4 = .ok (.iload_n 2, 1) := by decide +kernel
theorem dX4_ends_5 : decode cX4_ends 5 = .ok (.aload_n 0, 1) := by decide +kernel
theorem dX4_ends_6 : decode cX4_ends 6 = .ok (.getfield 75, 3) := by decide +kernel
theorem dX4_ends_9 : decode cX4_ends 9 = .ok (.if_icmp .ge 33, 3) := by decide +kernel
theorem dX4_ends_12 : decode cX4_ends 12 = .ok (.aload_n 0, 1) := by decide +kernel
theorem dX4_ends_13 : decode cX4_ends 13 = .ok (.getfield 38, 3) := by decide +kernel
theorem dX4_ends_16 : decode cX4_ends 16 = .ok (.iload_n 2, 1) := by decide +kernel
theorem dX4_ends_17 : decode cX4_ends 17 = .ok (.dup2, 1) := by decide +kernel
theorem dX4_ends_18 : decode cX4_ends 18 = .ok (.iaload, 1) := by decide +kernel
theorem dX4_ends_19 : decode cX4_ends 19 = .ok (.aload_n 0, 1) := by decide +kernel
theorem dX4_ends_20 : decode cX4_ends 20 = .ok (.getfield 20, 3) := by decide +kernel
theorem dX4_ends_23 : decode cX4_ends 23 = .ok (.iload_n 2, 1) := by decide +kernel
theorem dX4_ends_24 : decode cX4_ends 24 = .ok (.iaload, 1) := by decide +kernel
theorem dX4_ends_25 : decode cX4_ends 25 = .ok (.iconst 3, 1) := by decide +kernel
theorem dX4_ends_26 : decode cX4_ends 26 = .ok (.if_icmp .ne 7, 3) := by decide +kernel
theorem dX4_ends_29 : decode cX4_ends 29 = .ok (.iconst 1, 1) := by decide +kernel
theorem dX4_ends_30 : decode cX4_ends 30 = .ok (.goto 4, 3) := by decide +kernel
theorem dX4_ends_33 : decode cX4_ends 33 = .ok (.iconst 0, 1) := by decide +kernel
theorem dX4_ends_34 : decode cX4_ends 34 = .ok (.iadd, 1) := by decide +kernel
theorem dX4_ends_35 : decode cX4_ends 35 = .ok (.iastore, 1) := by decide +kernel
theorem dX4_ends_36 : decode cX4_ends 36 = .ok (.iinc 2 1, 3) := by decide +kernel
theorem dX4_ends_39 : decode cX4_ends 39 = .ok (.goto (-35), 3) := by decide +kernel
theorem dX4_ends_42 : decode cX4_ends 42 = .ok (.aload_n 0, 1) := by decide +kernel
theorem dX4_ends_43 : decode cX4_ends 43 = .ok (.dup, 1) := by decide +kernel
theorem dX4_ends_44 : decode cX4_ends 44 = .ok (.getfield 85, 3) := by decide +kernel
theorem dX4_ends_47 : decode cX4_ends 47 = .ok (.iconst 1, 1) := by decide +kernel
theorem dX4_ends_48 : decode cX4_ends 48 = .ok (.iadd, 1) := by decide +kernel
theorem dX4_ends_49 : decode cX4_ends 49 = .ok (.putfield 85, 3) := by decide +kernel
theorem dX4_ends_52 : decode cX4_ends 52 = .ok (.iconst 0, 1) := by decide +kernel
theorem dX4_ends_53 : decode cX4_ends 53 = .ok (.istore_n 2, 1) := by decide +kernel
theorem dX4_ends_54 : decode cX4_ends 54 = .ok (.iload_n 2, 1) := by decide +kernel
theorem dX4_ends_55 : decode cX4_ends 55 = .ok (.aload_n 0, 1) := by decide +kernel
theorem dX4_ends_56 : decode cX4_ends 56 = .ok (.getfield 82, 3) := by decide +kernel
theorem dX4_ends_59 : decode cX4_ends 59 = .ok (.if_icmp .ge 124, 3) := by decide +kernel
theorem dX4_ends_62 : decode cX4_ends 62 = .ok (.aload_n 0, 1) := by decide +kernel
theorem dX4_ends_63 : decode cX4_ends 63 = .ok (.getfield 41, 3) := by decide +kernel
theorem dX4_ends_66 : decode cX4_ends 66 = .ok (.iload_n 2, 1) := by decide +kernel
theorem dX4_ends_67 : decode cX4_ends 67 = .ok (.iaload, 1) := by decide +kernel
theorem dX4_ends_68 : decode cX4_ends 68 = .ok (.ifCond .ne 109, 3) := by decide +kernel
theorem dX4_ends_71 : decode cX4_ends 71 = .ok (.aload_n 0, 1) := by decide +kernel
theorem dX4_ends_72 : decode cX4_ends 72 = .ok (.getfield 53, 3) := by decide +kernel
theorem dX4_ends_75 : decode cX4_ends 75 = .ok (.iload_n 2, 1) := by decide +kernel
theorem dX4_ends_76 : decode cX4_ends 76 = .ok (.iaload, 1) := by decide +kernel
theorem dX4_ends_77 : decode cX4_ends 77 = .ok (.aload_n 0, 1) := by decide +kernel
theorem dX4_ends_78 : decode cX4_ends 78 = .ok (.getfield 56, 3) := by decide +kernel
theorem dX4_ends_81 : decode cX4_ends 81 = .ok (.iload_n 2, 1) := by decide +kernel
theorem dX4_ends_82 : decode cX4_ends 82 = .ok (.iaload, 1) := by decide +kernel
theorem dX4_ends_83 : decode cX4_ends 83 = .ok (.iadd, 1) := by decide +kernel
theorem dX4_ends_84 : decode cX4_ends 84 = .ok (.aload_n 0, 1) := by decide +kernel
theorem dX4_ends_85 : decode cX4_ends 85 = .ok (.getfield 85, 3) := by decide +kernel
theorem dX4_ends_88 : decode cX4_ends 88 = .ok (.if_icmp .ne 89, 3) := by decide +kernel
theorem dX4_ends_91 : decode cX4_ends 91 = .ok (.aload_n 0, 1) := by decide +kernel
theorem dX4_ends_92 : decode cX4_ends 92 = .ok (.aload_n 0, 1) := by decide +kernel
theorem dX4_ends_93 : decode cX4_ends 93 = .ok (.getfield 44, 3) := by decide +kernel
theorem dX4_ends_96 : decode cX4_ends 96 = .ok (.iload_n 2, 1) := by decide +kernel
theorem dX4_ends_97 : decode cX4_ends 97 = .ok (.iaload, 1) := by decide +kernel
theorem dX4_ends_98 : decode cX4_ends 98 = .ok (.invokevirtual 107, 3) := by decide +kernel
theorem dX4_ends_101 : decode cX4_ends 101 = .ok (.ifCond .eq 17, 3) := by decide +kernel
theorem dX4_ends_104 : decode cX4_ends 104 = .ok (.aload_n 0, 1) := by decide +kernel
theorem dX4_ends_105 : decode cX4_ends 105 = .ok (.getfield 59, 3) := by decide +kernel
theorem dX4_ends_108 : decode cX4_ends 108 = .ok (.iload_n 2, 1) := by decide +kernel
theorem dX4_ends_109 : decode cX4_ends 109 = .ok (.iaload, 1) := by decide +kernel
theorem dX4_ends_110 : decode cX4_ends 110 = .ok (.iconst 3, 1) := by decide +kernel
theorem dX4_ends_111 : decode cX4_ends 111 = .ok (.if_icmp .ne 7, 3) := by decide +kernel
theorem dX4_ends_114 : decode cX4_ends 114 = .ok (.iconst 1, 1) := by decide +kernel
theorem dX4_ends_115 : decode cX4_ends 115 = .ok (.goto 4, 3) := by decide +kernel
theorem dX4_ends_118 : decode cX4_ends 118 = .ok (.iconst 0, 1) := by decide +kernel
theorem dX4_ends_119 : decode cX4_ends 119 = .ok (.istore_n 3, 1) := by decide +kernel
theorem dX4_ends_120 : decode cX4_ends 120 = .ok (.aload_n 0, 1) := by decide +kernel
theorem dX4_ends_121 : decode cX4_ends 121 = .ok (.getfield 41, 3) := by decide +kernel
theorem dX4_ends_124 : decode cX4_ends 124 = .ok (.iload_n 2, 1) := by decide +kernel
theorem dX4_ends_125 : decode cX4_ends 125 = .ok (.iload_n 3, 1) := by decide +kernel
theorem dX4_ends_126 : decode cX4_ends 126 = .ok (.ifCond .eq 7, 3) := by decide +kernel
theorem dX4_ends_129 : decode cX4_ends 129 = .ok (.iconst 1, 1) := by decide +kernel
theorem dX4_ends_130 : decode cX4_ends 130 = .ok (.goto 4, 3) := by decide +kernel
theorem dX4_ends_133 : decode cX4_ends 133 = .ok (.iconst 2, 1) := by decide +kernel
theorem dX4_ends_134 : decode cX4_ends 134 = .ok (.iastore, 1) := by decide +kernel
theorem dX4_ends_135 : decode cX4_ends 135 = .ok (.aload_n 0, 1) := by decide +kernel
theorem dX4_ends_136 : decode cX4_ends 136 = .ok (.getfield 20, 3) := by decide +kernel
theorem dX4_ends_139 : decode cX4_ends 139 = .ok (.aload_n 0, 1) := by decide +kernel
theorem dX4_ends_140 : decode cX4_ends 140 = .ok (.getfield 44, 3) := by decide +kernel
theorem dX4_ends_143 : decode cX4_ends 143 = .ok (.iload_n 2, 1) := by decide +kernel
theorem dX4_ends_144 : decode cX4_ends 144 = .ok (.iaload, 1) := by decide +kernel
theorem dX4_ends_145 : decode cX4_ends 145 = .ok (.iload_n 3, 1) := by decide +kernel
theorem dX4_ends_146 : decode cX4_ends 146 = .ok (.ifCond .eq 7, 3) := by decide +kernel
theorem dX4_ends_149 : decode cX4_ends 149 = .ok (.iconst 1, 1) := by decide +kernel
theorem dX4_ends_150 : decode cX4_ends 150 = .ok (.goto 14, 3) := by decide +kernel
theorem dX4_ends_153 : decode cX4_ends 153 = .ok (.aload_n 0, 1) := by decide +kernel
theorem dX4_ends_154 : decode cX4_ends 154 = .ok (.getfield 20, 3) := by decide +kernel
theorem dX4_ends_157 : decode cX4_ends 157 = .ok (.aload_n 0, 1) := by decide +kernel
theorem dX4_ends_158 : decode cX4_ends 158 = .ok (.getfield 44, 3) := by decide +kernel
theorem dX4_ends_161 : decode cX4_ends 161 = .ok (.iload_n 2, 1) := by decide +kernel
theorem dX4_ends_162 : decode cX4_ends 162 = .ok (.iaload, 1) := by decide +kernel
theorem dX4_ends_163 : decode cX4_ends 163 = .ok (.iaload, 1) := by decide +kernel
theorem dX4_ends_164 : decode cX4_ends 164 = .ok (.iastore, 1) := by decide +kernel
theorem dX4_ends_165 : decode cX4_ends 165 = .ok (.iload_n 1, 1) := by decide +kernel
theorem dX4_ends_166 : decode cX4_ends 166 = .ok (.iload_n 3, 1) := by decide +kernel
theorem dX4_ends_167 : decode cX4_ends 167 = .ok (.ifCond .eq 7, 3) := by decide +kernel
theorem dX4_ends_170 : decode cX4_ends 170 = .ok (.iconst 1, 1) := by decide +kernel
theorem dX4_ends_171 : decode cX4_ends 171 = .ok (.goto 4, 3) := by decide +kernel
theorem dX4_ends_174 : decode cX4_ends 174 = .ok (.iconst 0, 1) := by decide +kernel
theorem dX4_ends_175 : decode cX4_ends 175 = .ok (.iadd, 1) := by decide +kernel
theorem dX4_ends_176 : decode cX4_ends 176 = .ok (.istore_n 1, 1) := by decide +kernel
theorem dX4_ends_177 : decode cX4_ends 177 = .ok (.iinc 2 1, 3) := by decide +kernel
theorem dX4_ends_180 : decode cX4_ends 180 = .ok (.goto (-126), 3) := by decide +kernel
theorem dX4_ends_183 : decode cX4_ends 183 = .ok (.iconst 0, 1) := by decide +kernel
theorem dX4_ends_184 : decode cX4_ends 184 = .ok (.istore_n 2, 1) := by decide +kernel
theorem dX4_ends_185 : decode cX4_ends 185 = .ok (.iload_n 2, 1) := by decide +kernel
theorem dX4_ends_186 : decode cX4_ends 186 = .ok (.aload_n 0, 1) := by decide +kernel
theorem dX4_ends_187 : decode cX4_ends 187 = .ok (.getfield 75, 3) := by decide +kernel
theorem dX4_ends_190 : decode cX4_ends 190 = .ok (.if_icmp .ge 46, 3) := by decide +kernel
theorem dX4_ends_193 : decode cX4_ends 193 = .ok (.aload_n 0, 1) := by decide +kernel
theorem dX4_ends_194 : decode cX4_ends 194 = .ok (.getfield 20, 3) := by decide +kernel
theorem dX4_ends_197 : decode cX4_ends 197 = .ok (.iload_n 2, 1) := by decide +kernel
theorem dX4_ends_198 : decode cX4_ends 198 = .ok (.aload_n 0, 1) := by decide +kernel
theorem dX4_ends_199 : decode cX4_ends 199 = .ok (.iload_n 2, 1) := by decide +kernel
theorem dX4_ends_200 : decode cX4_ends 200 = .ok (.invokevirtual 107, 3) := by decide +kernel
theorem dX4_ends_203 : decode cX4_ends 203 = .ok (.ifCond .eq 20, 3) := by decide +kernel
theorem dX4_ends_206 : decode cX4_ends 206 = .ok (.aload_n 0, 1) := by decide +kernel
theorem dX4_ends_207 : decode cX4_ends 207 = .ok (.getfield 38, 3) := by decide +kernel
theorem dX4_ends_210 : decode cX4_ends 210 = .ok (.iload_n 2, 1) := by decide +kernel
theorem dX4_ends_211 : decode cX4_ends 211 = .ok (.iaload, 1) := by decide +kernel
theorem dX4_ends_212 : decode cX4_ends 212 = .ok (.aload_n 0, 1) := by decide +kernel
theorem dX4_ends_213 : decode cX4_ends 213 = .ok (.getfield 85, 3) := by decide +kernel
theorem dX4_ends_216 : decode cX4_ends 216 = .ok (.if_icmp .gt 7, 3) := by decide +kernel
theorem dX4_ends_219 : decode cX4_ends 219 = .ok (.iconst 5, 1) := by decide +kernel
theorem dX4_ends_220 : decode cX4_ends 220 = .ok (.goto 9, 3) := by decide +kernel
theorem dX4_ends_223 : decode cX4_ends 223 = .ok (.aload_n 0, 1) := by decide +kernel
theorem dX4_ends_224 : decode cX4_ends 224 = .ok (.getfield 20, 3) := by decide +kernel
theorem dX4_ends_227 : decode cX4_ends 227 = .ok (.iload_n 2, 1) := by decide +kernel
theorem dX4_ends_228 : decode cX4_ends 228 = .ok (.iaload, 1) := by decide +kernel
theorem dX4_ends_229 : decode cX4_ends 229 = .ok (.iastore, 1) := by decide +kernel
theorem dX4_ends_230 : decode cX4_ends 230 = .ok (.iinc 2 1, 3) := by decide +kernel
theorem dX4_ends_233 : decode cX4_ends 233 = .ok (.goto (-48), 3) := by decide +kernel
theorem dX4_ends_236 : decode cX4_ends 236 = .ok (.iload_n 1, 1) := by decide +kernel
theorem dX4_ends_237 : decode cX4_ends 237 = .ok (.ireturn, 1) := by decide +kernel
theorem dX4_pass_0 : decode cX4_pass 0 = .ok (.aload_n 0, 1) := by decide +kernel
theorem dX4_pass_1 : decode cX4_pass 1 = .ok (.iload_n 1, 1) := by decide +kernel
theorem dX4_pass_2 : decode cX4_pass 2 = .ok (.iconst 1, 1) := by decide +kernel
theorem dX4_pass_3 : decode cX4_pass 3 = .ok (.bipush 50, 2) := by decide +kernel
theorem dX4_pass_5 : decode cX4_pass 5 = .ok (.invokestatic 78, 3) := by decide +kernel
theorem dX4_pass_8 : decode cX4_pass 8 = .ok (.ifCond .ne 7, 3) := by decide +kernel
theorem dX4_pass_11 : decode cX4_pass 11 = .ok (.iconst 1, 1) := by decide +kernel
theorem dX4_pass_12 : decode cX4_pass 12 = .ok (.goto 20, 3) := by decide +kernel
theorem dX4_pass_15 : decode cX4_pass 15 = .ok (.aload_n 0, 1) := by decide +kernel
theorem dX4_pass_16 : decode cX4_pass 16 = .ok (.getfield 85, 3) := by decide +kernel
theorem dX4_pass_19 : decode cX4_pass 19 = .ok (.iload_n 1, 1) := by decide +kernel
theorem dX4_pass_20 : decode cX4_pass 20 = .ok (.iadd, 1) := by decide +kernel
theorem dX4_pass_21 : decode cX4_pass 21 = .ok (.sipush 1000, 3) := by decide +kernel
theorem dX4_pass_24 : decode cX4_pass 24 = .ok (.if_icmp .le 7, 3) := by decide +kernel
theorem dX4_pass_27 : decode cX4_pass 27 = .ok (.iconst 2, 1) := by decide +kernel
theorem dX4_pass_28 : decode cX4_pass 28 = .ok (.goto 4, 3) := by decide +kernel
theorem dX4_pass_31 : decode cX4_pass 31 = .ok (.iconst 0, 1) := by decide +kernel
theorem dX4_pass_32 : decode cX4_pass 32 = .ok (.putfield 71, 3) := by decide +kernel
theorem dX4_pass_35 : decode cX4_pass 35 = .ok (.iconst 0, 1) := by decide +kernel
theorem dX4_pass_36 : decode cX4_pass 36 = .ok (.istore_n 2, 1) := by decide +kernel
theorem dX4_pass_37 : decode cX4_pass 37 = .ok (.iconst 0, 1) := by decide +kernel
theorem dX4_pass_38 : decode cX4_pass 38 = .ok (.istore_n 3, 1) := by decide +kernel
theorem dX4_pass_39 : decode cX4_pass 39 = .ok (.iload_n 3, 1) := by decide +kernel
theorem dX4_pass_40 : decode cX4_pass 40 = .ok (.iload_n 1, 1) := by decide +kernel
theorem dX4_pass_41 : decode cX4_pass 41 = .ok (.if_icmp .ge 23, 3) := by decide +kernel
theorem dX4_pass_44 : decode cX4_pass 44 = .ok (.aload_n 0, 1) := by decide +kernel
theorem dX4_pass_45 : decode cX4_pass 45 = .ok (.getfield 71, 3) := by decide +kernel
theorem dX4_pass_48 : decode cX4_pass 48 = .ok (.ifCond .ne 16, 3) := by decide +kernel
theorem dX4_pass_51 : decode cX4_pass 51 = .ok (.iload_n 2, 1) := by decide +kernel
theorem dX4_pass_52 : decode cX4_pass 52 = .ok (.aload_n 0, 1) := by decide +kernel
theorem dX4_pass_53 : decode cX4_pass 53 = .ok (.invokevirtual 124, 3) := by decide +kernel
theorem dX4_pass_56 : decode cX4_pass 56 = .ok (.iadd, 1) := by decide +kernel
theorem dX4_pass_57 : decode cX4_pass 57 = .ok (.istore_n 2, 1) := by decide +kernel
theorem dX4_pass_58 : decode cX4_pass 58 = .ok (.iinc 3 1, 3) := by decide +kernel
theorem dX4_pass_61 : decode cX4_pass 61 = .ok (.goto (-22), 3) := by decide +kernel
theorem dX4_pass_64 : decode cX4_pass 64 = .ok (.iload_n 2, 1) := by decide +kernel
theorem dX4_pass_65 : decode cX4_pass 65 = .ok (.ireturn, 1) := by decide +kernel
theorem dX4_clash_0 : decode cX4_clash 0 = .ok (.aload_n 0, 1) := by decide +kernel
theorem dX4_clash_1 : decode cX4_clash 1 = .ok (.aload_n 0, 1) := by decide +kernel
theorem dX4_clash_2 : decode cX4_clash 2 = .ok (.iload_n 1, 1) := by decide +kernel
theorem dX4_clash_3 : decode cX4_clash 3 = .ok (.invokevirtual 88, 3) := by decide +kernel
theorem dX4_clash_6 : decode cX4_clash 6 = .ok (.ifCond .eq 19, 3) := by decide +kernel
theorem dX4_clash_9 : decode cX4_clash 9 = .ok (.iload_n 2, 1) := by decide +kernel
theorem dX4_clash_10 : decode cX4_clash 10 = .ok (.iconst 0, 1) := by decide +kernel
theorem dX4_clash_11 : decode cX4_clash 11 = .ok (.iconst 3, 1) := by decide +kernel
theorem dX4_clash_12 : decode cX4_clash 12 = .ok (.invokestatic 78, 3) := by decide +kernel
theorem dX4_clash_15 : decode cX4_clash 15 = .ok (.ifCond .eq 10, 3) := by decide +kernel
theorem dX4_clash_18 : decode cX4_clash 18 = .ok (.iload_n 3, 1) := by decide +kernel
theorem dX4_clash_19 : decode cX4_clash 19 = .ok (.invokestatic 104, 3) := by decide +kernel
theorem dX4_clash_22 : decode cX4_clash 22 = .ok (.ifCond .ne 7, 3) := by decide +kernel
theorem dX4_clash_25 : decode cX4_clash 25 = .ok (.iconst 1, 1) := by decide +kernel
theorem dX4_clash_26 : decode cX4_clash 26 = .ok (.goto 30, 3) := by decide +kernel
theorem dX4_clash_29 : decode cX4_clash 29 = .ok (.iload 4, 2) := by decide +kernel
theorem dX4_clash_31 : decode cX4_clash 31 = .ok (.iconst 0, 1) := by decide +kernel
theorem dX4_clash_32 : decode cX4_clash 32 = .ok (.sipush 999, 3) := by decide +kernel
theorem dX4_clash_35 : decode cX4_clash 35 = .ok (.invokestatic 78, 3) := by decide +kernel
theorem dX4_clash_38 : decode cX4_clash 38 = .ok (.ifCond .eq 13, 3) := by decide +kernel
theorem dX4_clash_41 : decode cX4_clash 41 = .ok (.iload 5, 2) := by decide +kernel
theorem dX4_clash_43 : decode cX4_clash 43 = .ok (.iconst 1, 1) := by decide +kernel
theorem dX4_clash_44 : decode cX4_clash 44 = .ok (.iconst 4, 1) := by decide +kernel
theorem dX4_clash_45 : decode cX4_clash 45 = .ok (.invokestatic 78, 3) := by decide +kernel
theorem dX4_clash_48 : decode cX4_clash 48 = .ok (.ifCond .ne 7, 3) := by decide +kernel
theorem dX4_clash_51 : decode cX4_clash 51 = .ok (.iconst 2, 1) := by decide +kernel
theorem dX4_clash_52 : decode cX4_clash 52 = .ok (.goto 4, 3) := by decide +kernel
theorem dX4_clash_55 : decode cX4_clash 55 = .ok (.iconst 0, 1) := by decide +kernel
theorem dX4_clash_56 : decode cX4_clash 56 = .ok (.putfield 71, 3) := by decide +kernel
theorem dX4_clash_59 : decode cX4_clash 59 = .ok (.aload_n 0, 1) := by decide +kernel
theorem dX4_clash_60 : decode cX4_clash 60 = .ok (.getfield 71, 3) := by decide +kernel
theorem dX4_clash_63 : decode cX4_clash 63 = .ok (.ifCond .le 7, 3) := by decide +kernel
theorem dX4_clash_66 : decode cX4_clash 66 = .ok (.iconst 0, 1) := by decide +kernel
theorem dX4_clash_67 : decode cX4_clash 67 = .ok (.goto 15, 3) := by decide +kernel
theorem dX4_clash_70 : decode cX4_clash 70 = .ok (.aload_n 0, 1) := by decide +kernel
theorem dX4_clash_71 : decode cX4_clash 71 = .ok (.iload_n 1, 1) := by decide +kernel
theorem dX4_clash_72 : decode cX4_clash 72 = .ok (.iload_n 2, 1) := by decide +kernel
theorem dX4_clash_73 : decode cX4_clash 73 = .ok (.iload_n 3, 1) := by decide +kernel
theorem dX4_clash_74 : decode cX4_clash 74 = .ok (.iload 4, 2) := by decide +kernel
theorem dX4_clash_76 : decode cX4_clash 76 = .ok (.iload 5, 2) := by decide +kernel
theorem dX4_clash_78 : decode cX4_clash 78 = .ok (.iconst (-1), 1) := by decide +kernel
theorem dX4_clash_79 : decode cX4_clash 79 = .ok (.invokevirtual 114, 3) := by decide +kernel
theorem dX4_clash_82 : decode cX4_clash 82 = .ok (.ireturn, 1) := by decide +kernel
theorem dX4_at_0 : decode cX4_at 0 = .ok (.aload_n 0, 1) := by decide +kernel
theorem dX4_at_1 : decode cX4_at 1 = .ok (.iload_n 1, 1) := by decide +kernel
theorem dX4_at_2 : decode cX4_at 2 = .ok (.iconst 0, 1) := by decide +kernel
theorem dX4_at_3 : decode cX4_at 3 = .ok (.iconst 3, 1) := by decide +kernel
theorem dX4_at_4 : decode cX4_at 4 = .ok (.invokestatic 78, 3) := by decide +kernel
theorem dX4_at_7 : decode cX4_at 7 = .ok (.ifCond .ne 7, 3) := by decide +kernel
theorem dX4_at_10 : decode cX4_at 10 = .ok (.iconst 1, 1) := by decide +kernel
theorem dX4_at_11 : decode cX4_at 11 = .ok (.goto 37, 3) := by decide +kernel
theorem dX4_at_14 : decode cX4_at 14 = .ok (.iload_n 2, 1) := by decide +kernel
theorem dX4_at_15 : decode cX4_at 15 = .ok (.iconst 0, 1) := by decide +kernel
theorem dX4_at_16 : decode cX4_at 16 = .ok (.iload_n 1, 1) := by decide +kernel
theorem dX4_at_17 : decode cX4_at 17 = .ok (.iconst 2, 1) := by decide +kernel
theorem dX4_at_18 : decode cX4_at 18 = .ok (.if_icmp .ne 7, 3) := by decide +kernel
theorem dX4_at_21 : decode cX4_at 21 = .ok (.iconst 5, 1) := by decide +kernel
theorem dX4_at_22 : decode cX4_at 22 = .ok (.goto 4, 3) := by decide +kernel
theorem dX4_at_25 : decode cX4_at 25 = .ok (.iconst 3, 1) := by decide +kernel
theorem dX4_at_26 : decode cX4_at 26 = .ok (.invokestatic 78, 3) := by decide +kernel
theorem dX4_at_29 : decode cX4_at 29 = .ok (.ifCond .eq 14, 3) := by decide +kernel
theorem dX4_at_32 : decode cX4_at 32 = .ok (.iload_n 3, 1) := by decide +kernel
theorem dX4_at_33 : decode cX4_at 33 = .ok (.iconst 0, 1) := by decide +kernel
theorem dX4_at_34 : decode cX4_at 34 = .ok (.sipush 1003, 3) := by decide +kernel
theorem dX4_at_37 : decode cX4_at 37 = .ok (.invokestatic 78, 3) := by decide +kernel
theorem dX4_at_40 : decode cX4_at 40 = .ok (.ifCond .ne 7, 3) := by decide +kernel
theorem dX4_at_43 : decode cX4_at 43 = .ok (.iconst 2, 1) := by decide +kernel
theorem dX4_at_44 : decode cX4_at 44 = .ok (.goto 4, 3) := by decide +kernel
theorem dX4_at_47 : decode cX4_at 47 = .ok (.iconst 0, 1) := by decide +kernel
theorem dX4_at_48 : decode cX4_at 48 = .ok (.putfield 71, 3) := by decide +kernel
theorem dX4_at_51 : decode cX4_at 51 = .ok (.iconst (-1), 1) := by decide +kernel
theorem dX4_at_52 : decode cX4_at 52 = .ok (.istore 4, 2) := by decide +kernel
theorem dX4_at_54 : decode cX4_at 54 = .ok (.iconst 0, 1) := by decide +kernel
theorem dX4_at_55 : decode cX4_at 55 = .ok (.istore 5, 2) := by decide +kernel
theorem dX4_at_57 : decode cX4_at 57 = .ok (.iload 5, 2) := by decide +kernel
theorem dX4_at_59 : decode cX4_at 59 = .ok (.aload_n 0, 1) := by decide +kernel
theorem dX4_at_60 : decode cX4_at 60 = .ok (.getfield 82, 3) := by decide +kernel
theorem dX4_at_63 : decode cX4_at 63 = .ok (.if_icmp .ge 171, 3) := by decide +kernel
theorem dX4_at_66 : decode cX4_at 66 = .ok (.aload_n 0, 1) := by decide +kernel
theorem dX4_at_67 : decode cX4_at 67 = .ok (.getfield 71, 3) := by decide +kernel
theorem dX4_at_70 : decode cX4_at 70 = .ok (.ifCond .ne 164, 3) := by decide +kernel
theorem dX4_at_73 : decode cX4_at 73 = .ok (.aload_n 0, 1) := by decide +kernel
theorem dX4_at_74 : decode cX4_at 74 = .ok (.getfield 44, 3) := by decide +kernel
theorem dX4_at_77 : decode cX4_at 77 = .ok (.iload 5, 2) := by decide +kernel
theorem dX4_at_79 : decode cX4_at 79 = .ok (.iaload, 1) := by decide +kernel
theorem dX4_at_80 : decode cX4_at 80 = .ok (.istore 6, 2) := by decide +kernel
theorem dX4_at_82 : decode cX4_at 82 = .ok (.iload_n 1, 1) := by decide +kernel
theorem dX4_at_83 : decode cX4_at 83 = .ok (.ifCond .ne 22, 3) := by decide +kernel
theorem dX4_at_86 : decode cX4_at 86 = .ok (.aload_n 0, 1) := by decide +kernel
theorem dX4_at_87 : decode cX4_at 87 = .ok (.getfield 47, 3) := by decide +kernel
theorem dX4_at_90 : decode cX4_at 90 = .ok (.iload 5, 2) := by decide +kernel
theorem dX4_at_92 : decode cX4_at 92 = .ok (.iaload, 1) := by decide +kernel
theorem dX4_at_93 : decode cX4_at 93 = .ok (.iload_n 2, 1) := by decide +kernel
theorem dX4_at_94 : decode cX4_at 94 = .ok (.if_icmp .ne 7, 3) := by decide +kernel
theorem dX4_at_97 : decode cX4_at 97 = .ok (.iconst 1, 1) := by decide +kernel
theorem dX4_at_98 : decode cX4_at 98 = .ok (.goto 82, 3) := by decide +kernel
theorem dX4_at_101 : decode cX4_at 101 = .ok (.iconst 0, 1) := by decide +kernel
theorem dX4_at_102 : decode cX4_at 102 = .ok (.goto 78, 3) := by decide +kernel
theorem dX4_at_105 : decode cX4_at 105 = .ok (.iload_n 1, 1) := by decide +kernel
theorem dX4_at_106 : decode cX4_at 106 = .ok (.iconst 1, 1) := by decide +kernel
theorem dX4_at_107 : decode cX4_at 107 = .ok (.if_icmp .ne 22, 3) := by decide +kernel
theorem dX4_at_110 : decode cX4_at 110 = .ok (.aload_n 0, 1) := by decide +kernel
theorem dX4_at_111 : decode cX4_at 111 = .ok (.getfield 23, 3) := by decide +kernel
theorem dX4_at_114 : decode cX4_at 114 = .ok (.iload 6, 2) := by decide +kernel
theorem dX4_at_116 : decode cX4_at 116 = .ok (.iaload, 1) := by decide +kernel
theorem dX4_at_117 : decode cX4_at 117 = .ok (.iload_n 2, 1) := by decide +kernel
theorem dX4_at_118 : decode cX4_at 118 = .ok (.if_icmp .ne 7, 3) := by decide +kernel
theorem dX4_at_121 : decode cX4_at 121 = .ok (.iconst 1, 1) := by decide +kernel
theorem dX4_at_122 : decode cX4_at 122 = .ok (.goto 58, 3) := by decide +kernel
theorem dX4_at_125 : decode cX4_at 125 = .ok (.iconst 0, 1) := by decide +kernel
theorem dX4_at_126 : decode cX4_at 126 = .ok (.goto 54, 3) := by decide +kernel
theorem dX4_at_129 : decode cX4_at 129 = .ok (.iload_n 1, 1) := by decide +kernel
theorem dX4_at_130 : decode cX4_at 130 = .ok (.iconst 2, 1) := by decide +kernel
theorem dX4_at_131 : decode cX4_at 131 = .ok (.if_icmp .ne 33, 3) := by decide +kernel
theorem dX4_at_134 : decode cX4_at 134 = .ok (.aload_n 0, 1) := by decide +kernel
theorem dX4_at_135 : decode cX4_at 135 = .ok (.getfield 26, 3) := by decide +kernel
theorem dX4_at_138 : decode cX4_at 138 = .ok (.iload 6, 2) := by decide +kernel
theorem dX4_at_140 : decode cX4_at 140 = .ok (.iaload, 1) := by decide +kernel
theorem dX4_at_141 : decode cX4_at 141 = .ok (.iload_n 2, 1) := by decide +kernel
theorem dX4_at_142 : decode cX4_at 142 = .ok (.if_icmp .eq 14, 3) := by decide +kernel
theorem dX4_at_145 : decode cX4_at 145 = .ok (.aload_n 0, 1) := by decide +kernel
theorem dX4_at_146 : decode cX4_at 146 = .ok (.getfield 29, 3) := by decide +kernel
theorem dX4_at_149 : decode cX4_at 149 = .ok (.iload 6, 2) := by decide +kernel
theorem dX4_at_151 : decode cX4_at 151 = .ok (.iaload, 1) := by decide +kernel
theorem dX4_at_152 : decode cX4_at 152 = .ok (.iload_n 2, 1) := by decide +kernel
theorem dX4_at_153 : decode cX4_at 153 = .ok (.if_icmp .ne 7, 3) := by decide +kernel
theorem dX4_at_156 : decode cX4_at 156 = .ok (.iconst 1, 1) := by decide +kernel
theorem dX4_at_157 : decode cX4_at 157 = .ok (.goto 23, 3) := by decide +kernel
theorem dX4_at_160 : decode cX4_at 160 = .ok (.iconst 0, 1) := by decide +kernel
theorem dX4_at_161 : decode cX4_at 161 = .ok (.goto 19, 3) := by decide +kernel
theorem dX4_at_164 : decode cX4_at 164 = .ok (.aload_n 0, 1) := by decide +kernel
theorem dX4_at_165 : decode cX4_at 165 = .ok (.getfield 50, 3) := by decide +kernel
theorem dX4_at_168 : decode cX4_at 168 = .ok (.iload 5, 2) := by decide +kernel
theorem dX4_at_170 : decode cX4_at 170 = .ok (.iaload, 1) := by decide +kernel
theorem dX4_at_171 : decode cX4_at 171 = .ok (.iload_n 2, 1) := by decide +kernel
theorem dX4_at_172 : decode cX4_at 172 = .ok (.if_icmp .ne 7, 3) := by decide +kernel
theorem dX4_at_175 : decode cX4_at 175 = .ok (.iconst 1, 1) := by decide +kernel
theorem dX4_at_176 : decode cX4_at 176 = .ok (.goto 4, 3) := by decide +kernel
theorem dX4_at_179 : decode cX4_at 179 = .ok (.iconst 0, 1) := by decide +kernel
theorem dX4_at_180 : decode cX4_at 180 = .ok (.istore 7, 2) := by decide +kernel
theorem dX4_at_182 : decode cX4_at 182 = .ok (.iload 7, 2) := by decide +kernel
theorem dX4_at_184 : decode cX4_at 184 = .ok (.ifCond .eq 40, 3) := by decide +kernel
theorem dX4_at_187 : decode cX4_at 187 = .ok (.aload_n 0, 1) := by decide +kernel
theorem dX4_at_188 : decode cX4_at 188 = .ok (.getfield 41, 3) := by decide +kernel
theorem dX4_at_191 : decode cX4_at 191 = .ok (.iload 5, 2) := by decide +kernel
theorem dX4_at_193 : decode cX4_at 193 = .ok (.iaload, 1) := by decide +kernel
theorem dX4_at_194 : decode cX4_at 194 = .ok (.ifCond .ne 30, 3) := by decide +kernel
theorem dX4_at_197 : decode cX4_at 197 = .ok (.aload_n 0, 1) := by decide +kernel
theorem dX4_at_198 : decode cX4_at 198 = .ok (.getfield 53, 3) := by decide +kernel
theorem dX4_at_201 : decode cX4_at 201 = .ok (.iload 5, 2) := by decide +kernel
theorem dX4_at_203 : decode cX4_at 203 = .ok (.iaload, 1) := by decide +kernel
theorem dX4_at_204 : decode cX4_at 204 = .ok (.aload_n 0, 1) := by decide +kernel
theorem dX4_at_205 : decode cX4_at 205 = .ok (.getfield 56, 3) := by decide +kernel
theorem dX4_at_208 : decode cX4_at 208 = .ok (.iload 5, 2) := by decide +kernel
theorem dX4_at_210 : decode cX4_at 210 = .ok (.iaload, 1) := by decide +kernel
theorem dX4_at_211 : decode cX4_at 211 = .ok (.iload_n 3, 1) := by decide +kernel
theorem dX4_at_212 : decode cX4_at 212 = .ok (.iconst 1, 1) := by decide +kernel
theorem dX4_at_213 : decode cX4_at 213 = .ok (.invokestatic 96, 3) := by decide +kernel
theorem dX4_at_216 : decode cX4_at 216 = .ok (.ifCond .eq 8, 3) := by decide +kernel
theorem dX4_at_219 : decode cX4_at 219 = .ok (.iload 5, 2) := by decide +kernel
theorem dX4_at_221 : decode cX4_at 221 = .ok (.goto 5, 3) := by decide +kernel
theorem dX4_at_224 : decode cX4_at 224 = .ok (.iload 4, 2) := by decide +kernel
theorem dX4_at_226 : decode cX4_at 226 = .ok (.istore 4, 2) := by decide +kernel
theorem dX4_at_228 : decode cX4_at 228 = .ok (.iinc 5 1, 3) := by decide +kernel
theorem dX4_at_231 : decode cX4_at 231 = .ok (.goto (-174), 3) := by decide +kernel
theorem dX4_at_234 : decode cX4_at 234 = .ok (.aload_n 0, 1) := by decide +kernel
theorem dX4_at_235 : decode cX4_at 235 = .ok (.getfield 71, 3) := by decide +kernel
theorem dX4_at_238 : decode cX4_at 238 = .ok (.ifCond .le 7, 3) := by decide +kernel
theorem dX4_at_241 : decode cX4_at 241 = .ok (.iconst 0, 1) := by decide +kernel
theorem dX4_at_242 : decode cX4_at 242 = .ok (.goto 5, 3) := by decide +kernel
theorem dX4_at_245 : decode cX4_at 245 = .ok (.iload 4, 2) := by decide +kernel
theorem dX4_at_247 : decode cX4_at 247 = .ok (.ireturn, 1) := by decide +kernel
theorem dX4_toCome_0 : decode cX4_toCome 0 = .ok (.iconst 0, 1) := by decide +kernel
theorem dX4_toCome_1 : decode cX4_toCome 1 = .ok (.istore_n 2, 1) := by decide +kernel
theorem dX4_toCome_2 : decode cX4_toCome 2 = .ok (.iconst 0, 1) := by decide +kernel
theorem dX4_toCome_3 : decode cX4_toCome 3 = .ok (.istore_n 3, 1) := by decide +kernel
theorem dX4_toCome_4 : decode cX4_toCome 4 = .ok (.iload_n 3, 1) := by decide +kernel
theorem dX4_toCome_5 : decode cX4_toCome 5 = .ok (.iconst 4, 1) := by decide +kernel
theorem dX4_toCome_6 : decode cX4_toCome 6 = .ok (.if_icmp .ge 58, 3) := by decide +kernel
theorem dX4_toCome_9 : decode cX4_toCome 9 = .ok (.aload_n 0, 1) := by decide +kernel
theorem dX4_toCome_10 : decode cX4_toCome 10 = .ok (.getfield 85, 3) := by decide +kernel
theorem dX4_toCome_13 : decode cX4_toCome 13 = .ok (.iconst 1, 1) := by decide +kernel
theorem dX4_toCome_14 : decode cX4_toCome 14 = .ok (.iadd, 1) := by decide +kernel
theorem dX4_toCome_15 : decode cX4_toCome 15 = .ok (.istore 4, 2) := by decide +kernel
theorem dX4_toCome_17 : decode cX4_toCome 17 = .ok (.iload 4, 2) := by decide +kernel
theorem dX4_toCome_19 : decode cX4_toCome 19 = .ok (.sipush 1004, 3) := by decide +kernel
theorem dX4_toCome_22 : decode cX4_toCome 22 = .ok (.if_icmp .ge 36, 3) := by decide +kernel
theorem dX4_toCome_25 : decode cX4_toCome 25 = .ok (.iload_n 2, 1) := by decide +kernel
theorem dX4_toCome_26 : decode cX4_toCome 26 = .ok (.aload_n 0, 1) := by decide +kernel
theorem dX4_toCome_27 : decode cX4_toCome 27 = .ok (.getfield 65, 3) := by decide +kernel
theorem dX4_toCome_30 : decode cX4_toCome 30 = .ok (.sipush 1004, 3) := by decide +kernel
theorem dX4_toCome_33 : decode cX4_toCome 33 = .ok (.iload_n 3, 1) := by decide +kernel
theorem dX4_toCome_34 : decode cX4_toCome 34 = .ok (.imul, 1) := by decide +kernel
theorem dX4_toCome_35 : decode cX4_toCome 35 = .ok (.iload 4, 2) := by decide +kernel
theorem dX4_toCome_37 : decode cX4_toCome 37 = .ok (.iadd, 1) := by decide +kernel
theorem dX4_toCome_38 : decode cX4_toCome 38 = .ok (.iaload, 1) := by decide +kernel
theorem dX4_toCome_39 : decode cX4_toCome 39 = .ok (.iload_n 1, 1) := by decide +kernel
theorem dX4_toCome_40 : decode cX4_toCome 40 = .ok (.iconst 1, 1) := by decide +kernel
theorem dX4_toCome_41 : decode cX4_toCome 41 = .ok (.iadd, 1) := by decide +kernel
theorem dX4_toCome_42 : decode cX4_toCome 42 = .ok (.if_icmp .ne 7, 3) := by decide +kernel
theorem dX4_toCome_45 : decode cX4_toCome 45 = .ok (.iconst 1, 1) := by decide +kernel
theorem dX4_toCome_46 : decode cX4_toCome 46 = .ok (.goto 4, 3) := by decide +kernel
theorem dX4_toCome_49 : decode cX4_toCome 49 = .ok (.iconst 0, 1) := by decide +kernel
theorem dX4_toCome_50 : decode cX4_toCome 50 = .ok (.iadd, 1) := by decide +kernel
theorem dX4_toCome_51 : decode cX4_toCome 51 = .ok (.istore_n 2, 1) := by decide +kernel
theorem dX4_toCome_52 : decode cX4_toCome 52 = .ok (.iinc 4 1, 3) := by decide +kernel
theorem dX4_toCome_55 : decode cX4_toCome 55 = .ok (.goto (-38), 3) := by decide +kernel
theorem dX4_toCome_58 : decode cX4_toCome 58 = .ok (.iinc 3 1, 3) := by decide +kernel
theorem dX4_toCome_61 : decode cX4_toCome 61 = .ok (.goto (-57), 3) := by decide +kernel
theorem dX4_toCome_64 : decode cX4_toCome 64 = .ok (.iload_n 2, 1) := by decide +kernel
theorem dX4_toCome_65 : decode cX4_toCome 65 = .ok (.ireturn, 1) := by decide +kernel
theorem dX4_about_0 : decode cX4_about 0 = .ok (.aload_n 0, 1) := by decide +kernel
theorem dX4_about_1 : decode cX4_about 1 = .ok (.aload_n 0, 1) := by decide +kernel
theorem dX4_about_2 : decode cX4_about 2 = .ok (.iload_n 1, 1) := by decide +kernel
theorem dX4_about_3 : decode cX4_about 3 = .ok (.invokevirtual 88, 3) := by decide +kernel
theorem dX4_about_6 : decode cX4_about 6 = .ok (.ifCond .ne 7, 3) := by decide +kernel
theorem dX4_about_9 : decode cX4_about 9 = .ok (.iconst 1, 1) := by decide +kernel
theorem dX4_about_10 : decode cX4_about 10 = .ok (.goto 18, 3) := by decide +kernel
theorem dX4_about_13 : decode cX4_about 13 = .ok (.iload_n 2, 1) := by decide +kernel
theorem dX4_about_14 : decode cX4_about 14 = .ok (.iconst 0, 1) := by decide +kernel
theorem dX4_about_15 : decode cX4_about 15 = .ok (.bipush 7, 2) := by decide +kernel
theorem dX4_about_17 : decode cX4_about 17 = .ok (.invokestatic 78, 3) := by decide +kernel
theorem dX4_about_20 : decode cX4_about 20 = .ok (.ifCond .ne 7, 3) := by decide +kernel
theorem dX4_about_23 : decode cX4_about 23 = .ok (.iconst 2, 1) := by decide +kernel
theorem dX4_about_24 : decode cX4_about 24 = .ok (.goto 4, 3) := by decide +kernel
theorem dX4_about_27 : decode cX4_about 27 = .ok (.iconst 0, 1) := by decide +kernel
theorem dX4_about_28 : decode cX4_about 28 = .ok (.putfield 71, 3) := by decide +kernel
theorem dX4_about_31 : decode cX4_about 31 = .ok (.aload_n 0, 1) := by decide +kernel
theorem dX4_about_32 : decode cX4_about 32 = .ok (.getfield 71, 3) := by decide +kernel
theorem dX4_about_35 : decode cX4_about 35 = .ok (.ifCond .le 5, 3) := by decide +kernel
theorem dX4_about_38 : decode cX4_about 38 = .ok (.iconst 0, 1) := by decide +kernel
theorem dX4_about_39 : decode cX4_about 39 = .ok (.ireturn, 1) := by decide +kernel
theorem dX4_about_40 : decode cX4_about 40 = .ok (.iload_n 2, 1) := by decide +kernel
theorem dX4_about_41 : decode cX4_about 41 = .ok (.tableswitch 92 0 6 #[43, 50, 57, 64, 71, 78, 85], 43) := by decide +kernel
theorem dX4_about_84 : decode cX4_about 84 = .ok (.aload_n 0, 1) := by decide +kernel
theorem dX4_about_85 : decode cX4_about 85 = .ok (.getfield 20, 3) := by decide +kernel
theorem dX4_about_88 : decode cX4_about 88 = .ok (.iload_n 1, 1) := by decide +kernel
theorem dX4_about_89 : decode cX4_about 89 = .ok (.iaload, 1) := by decide +kernel
theorem dX4_about_90 : decode cX4_about 90 = .ok (.ireturn, 1) := by decide +kernel
theorem dX4_about_91 : decode cX4_about 91 = .ok (.aload_n 0, 1) := by decide +kernel
theorem dX4_about_92 : decode cX4_about 92 = .ok (.getfield 23, 3) := by decide +kernel
theorem dX4_about_95 : decode cX4_about 95 = .ok (.iload_n 1, 1) := by decide +kernel
theorem dX4_about_96 : decode cX4_about 96 = .ok (.iaload, 1) := by decide +kernel
theorem dX4_about_97 : decode cX4_about 97 = .ok (.ireturn, 1) := by decide +kernel
theorem dX4_about_98 : decode cX4_about 98 = .ok (.aload_n 0, 1) := by decide +kernel
theorem dX4_about_99 : decode cX4_about 99 = .ok (.getfield 26, 3) := by decide +kernel
theorem dX4_about_102 : decode cX4_about 102 = .ok (.iload_n 1, 1) := by decide +kernel
theorem dX4_about_103 : decode cX4_about 103 = .ok (.iaload, 1) := by decide +kernel
theorem dX4_about_104 : decode cX4_about 104 = .ok (.ireturn, 1) := by decide +kernel
theorem dX4_about_105 : decode cX4_about 105 = .ok (.aload_n 0, 1) := by decide +kernel
theorem dX4_about_106 : decode cX4_about 106 = .ok (.getfield 29, 3) := by decide +kernel
theorem dX4_about_109 : decode cX4_about 109 = .ok (.iload_n 1, 1) := by decide +kernel
theorem dX4_about_110 : decode cX4_about 110 = .ok (.iaload, 1) := by decide +kernel
theorem dX4_about_111 : decode cX4_about 111 = .ok (.ireturn, 1) := by decide +kernel
theorem dX4_about_112 : decode cX4_about 112 = .ok (.aload_n 0, 1) := by decide +kernel
theorem dX4_about_113 : decode cX4_about 113 = .ok (.getfield 32, 3) := by decide +kernel
theorem dX4_about_116 : decode cX4_about 116 = .ok (.iload_n 1, 1) := by decide +kernel
theorem dX4_about_117 : decode cX4_about 117 = .ok (.iaload, 1) := by decide +kernel
theorem dX4_about_118 : decode cX4_about 118 = .ok (.ireturn, 1) := by decide +kernel
theorem dX4_about_119 : decode cX4_about 119 = .ok (.aload_n 0, 1) := by decide +kernel
theorem dX4_about_120 : decode cX4_about 120 = .ok (.getfield 35, 3) := by decide +kernel
theorem dX4_about_123 : decode cX4_about 123 = .ok (.iload_n 1, 1) := by decide +kernel
theorem dX4_about_124 : decode cX4_about 124 = .ok (.iaload, 1) := by decide +kernel
theorem dX4_about_125 : decode cX4_about 125 = .ok (.ireturn, 1) := by decide +kernel
theorem dX4_about_126 : decode cX4_about 126 = .ok (.aload_n 0, 1) := by decide +kernel
theorem dX4_about_127 : decode cX4_about 127 = .ok (.getfield 38, 3) := by decide +kernel
theorem dX4_about_130 : decode cX4_about 130 = .ok (.iload_n 1, 1) := by decide +kernel
theorem dX4_about_131 : decode cX4_about 131 = .ok (.iaload, 1) := by decide +kernel
theorem dX4_about_132 : decode cX4_about 132 = .ok (.ireturn, 1) := by decide +kernel
theorem dX4_about_133 : decode cX4_about 133 = .ok (.aload_n 0, 1) := by decide +kernel
theorem dX4_about_134 : decode cX4_about 134 = .ok (.iload_n 1, 1) := by decide +kernel
theorem dX4_about_135 : decode cX4_about 135 = .ok (.invokevirtual 128, 3) := by decide +kernel
theorem dX4_about_138 : decode cX4_about 138 = .ok (.ireturn, 1) := by decide +kernel
theorem dX4_hearing_0 : decode cX4_hearing 0 = .ok (.aload_n 0, 1) := by decide +kernel
theorem dX4_hearing_1 : decode cX4_hearing 1 = .ok (.aload_n 0, 1) := by decide +kernel
theorem dX4_hearing_2 : decode cX4_hearing 2 = .ok (.iload_n 1, 1) := by decide +kernel
theorem dX4_hearing_3 : decode cX4_hearing 3 = .ok (.invokevirtual 121, 3) := by decide +kernel
theorem dX4_hearing_6 : decode cX4_hearing 6 = .ok (.ifCond .ne 7, 3) := by decide +kernel
theorem dX4_hearing_9 : decode cX4_hearing 9 = .ok (.iconst 1, 1) := by decide +kernel
theorem dX4_hearing_10 : decode cX4_hearing 10 = .ok (.goto 18, 3) := by decide +kernel
theorem dX4_hearing_13 : decode cX4_hearing 13 = .ok (.iload_n 2, 1) := by decide +kernel
theorem dX4_hearing_14 : decode cX4_hearing 14 = .ok (.iconst 0, 1) := by decide +kernel
theorem dX4_hearing_15 : decode cX4_hearing 15 = .ok (.bipush 7, 2) := by decide +kernel
theorem dX4_hearing_17 : decode cX4_hearing 17 = .ok (.invokestatic 78, 3) := by decide +kernel
theorem dX4_hearing_20 : decode cX4_hearing 20 = .ok (.ifCond .ne 7, 3) := by decide +kernel
theorem dX4_hearing_23 : decode cX4_hearing 23 = .ok (.iconst 2, 1) := by decide +kernel
theorem dX4_hearing_24 : decode cX4_hearing 24 = .ok (.goto 4, 3) := by decide +kernel
theorem dX4_hearing_27 : decode cX4_hearing 27 = .ok (.iconst 0, 1) := by decide +kernel
theorem dX4_hearing_28 : decode cX4_hearing 28 = .ok (.putfield 71, 3) := by decide +kernel
theorem dX4_hearing_31 : decode cX4_hearing 31 = .ok (.aload_n 0, 1) := by decide +kernel
theorem dX4_hearing_32 : decode cX4_hearing 32 = .ok (.getfield 71, 3) := by decide +kernel
theorem dX4_hearing_35 : decode cX4_hearing 35 = .ok (.ifCond .le 5, 3) := by decide +kernel
theorem dX4_hearing_38 : decode cX4_hearing 38 = .ok (.iconst 0, 1) := by decide +kernel
theorem dX4_hearing_39 : decode cX4_hearing 39 = .ok (.ireturn, 1) := by decide +kernel
theorem dX4_hearing_40 : decode cX4_hearing 40 = .ok (.iload_n 2, 1) := by decide +kernel
theorem dX4_hearing_41 : decode cX4_hearing 41 = .ok (.tableswitch 103 0 6 #[43, 50, 57, 64, 71, 78, 85], 43) := by decide +kernel
theorem dX4_hearing_84 : decode cX4_hearing 84 = .ok (.aload_n 0, 1) := by decide +kernel
theorem dX4_hearing_85 : decode cX4_hearing 85 = .ok (.getfield 41, 3) := by decide +kernel
theorem dX4_hearing_88 : decode cX4_hearing 88 = .ok (.iload_n 1, 1) := by decide +kernel
theorem dX4_hearing_89 : decode cX4_hearing 89 = .ok (.iaload, 1) := by decide +kernel
theorem dX4_hearing_90 : decode cX4_hearing 90 = .ok (.ireturn, 1) := by decide +kernel
theorem dX4_hearing_91 : decode cX4_hearing 91 = .ok (.aload_n 0, 1) := by decide +kernel
theorem dX4_hearing_92 : decode cX4_hearing 92 = .ok (.getfield 44, 3) := by decide +kernel
theorem dX4_hearing_95 : decode cX4_hearing 95 = .ok (.iload_n 1, 1) := by decide +kernel
theorem dX4_hearing_96 : decode cX4_hearing 96 = .ok (.iaload, 1) := by decide +kernel
theorem dX4_hearing_97 : decode cX4_hearing 97 = .ok (.ireturn, 1) := by decide +kernel
theorem dX4_hearing_98 : decode cX4_hearing 98 = .ok (.aload_n 0, 1) := by decide +kernel
theorem dX4_hearing_99 : decode cX4_hearing 99 = .ok (.getfield 47, 3) := by decide +kernel
theorem dX4_hearing_102 : decode cX4_hearing 102 = .ok (.iload_n 1, 1) := by decide +kernel
theorem dX4_hearing_103 : decode cX4_hearing 103 = .ok (.iaload, 1) := by decide +kernel
theorem dX4_hearing_104 : decode cX4_hearing 104 = .ok (.ireturn, 1) := by decide +kernel
theorem dX4_hearing_105 : decode cX4_hearing 105 = .ok (.aload_n 0, 1) := by decide +kernel
theorem dX4_hearing_106 : decode cX4_hearing 106 = .ok (.getfield 50, 3) := by decide +kernel
theorem dX4_hearing_109 : decode cX4_hearing 109 = .ok (.iload_n 1, 1) := by decide +kernel
theorem dX4_hearing_110 : decode cX4_hearing 110 = .ok (.iaload, 1) := by decide +kernel
theorem dX4_hearing_111 : decode cX4_hearing 111 = .ok (.ireturn, 1) := by decide +kernel
theorem dX4_hearing_112 : decode cX4_hearing 112 = .ok (.aload_n 0, 1) := by decide +kernel
theorem dX4_hearing_113 : decode cX4_hearing 113 = .ok (.getfield 53, 3) := by decide +kernel
theorem dX4_hearing_116 : decode cX4_hearing 116 = .ok (.iload_n 1, 1) := by decide +kernel
theorem dX4_hearing_117 : decode cX4_hearing 117 = .ok (.iaload, 1) := by decide +kernel
theorem dX4_hearing_118 : decode cX4_hearing 118 = .ok (.ireturn, 1) := by decide +kernel
theorem dX4_hearing_119 : decode cX4_hearing 119 = .ok (.aload_n 0, 1) := by decide +kernel
theorem dX4_hearing_120 : decode cX4_hearing 120 = .ok (.getfield 56, 3) := by decide +kernel
theorem dX4_hearing_123 : decode cX4_hearing 123 = .ok (.iload_n 1, 1) := by decide +kernel
theorem dX4_hearing_124 : decode cX4_hearing 124 = .ok (.iaload, 1) := by decide +kernel
theorem dX4_hearing_125 : decode cX4_hearing 125 = .ok (.ireturn, 1) := by decide +kernel
theorem dX4_hearing_126 : decode cX4_hearing 126 = .ok (.aload_n 0, 1) := by decide +kernel
theorem dX4_hearing_127 : decode cX4_hearing 127 = .ok (.getfield 59, 3) := by decide +kernel
theorem dX4_hearing_130 : decode cX4_hearing 130 = .ok (.iload_n 1, 1) := by decide +kernel
theorem dX4_hearing_131 : decode cX4_hearing 131 = .ok (.iaload, 1) := by decide +kernel
theorem dX4_hearing_132 : decode cX4_hearing 132 = .ok (.iconst 1, 1) := by decide +kernel
theorem dX4_hearing_133 : decode cX4_hearing 133 = .ok (.iand, 1) := by decide +kernel
theorem dX4_hearing_134 : decode cX4_hearing 134 = .ok (.aload_n 0, 1) := by decide +kernel
theorem dX4_hearing_135 : decode cX4_hearing 135 = .ok (.getfield 59, 3) := by decide +kernel
theorem dX4_hearing_138 : decode cX4_hearing 138 = .ok (.iload_n 1, 1) := by decide +kernel
theorem dX4_hearing_139 : decode cX4_hearing 139 = .ok (.iaload, 1) := by decide +kernel
theorem dX4_hearing_140 : decode cX4_hearing 140 = .ok (.iconst 1, 1) := by decide +kernel
theorem dX4_hearing_141 : decode cX4_hearing 141 = .ok (.ishr, 1) := by decide +kernel
theorem dX4_hearing_142 : decode cX4_hearing 142 = .ok (.iadd, 1) := by decide +kernel
theorem dX4_hearing_143 : decode cX4_hearing 143 = .ok (.ireturn, 1) := by decide +kernel
theorem dX4_hearing_144 : decode cX4_hearing 144 = .ok (.aload_n 0, 1) := by decide +kernel
theorem dX4_hearing_145 : decode cX4_hearing 145 = .ok (.getfield 62, 3) := by decide +kernel
theorem dX4_hearing_148 : decode cX4_hearing 148 = .ok (.iconst 4, 1) := by decide +kernel
theorem dX4_hearing_149 : decode cX4_hearing 149 = .ok (.iload_n 1, 1) := by decide +kernel
theorem dX4_hearing_150 : decode cX4_hearing 150 = .ok (.imul, 1) := by decide +kernel
theorem dX4_hearing_151 : decode cX4_hearing 151 = .ok (.iaload, 1) := by decide +kernel
theorem dX4_hearing_152 : decode cX4_hearing 152 = .ok (.aload_n 0, 1) := by decide +kernel
theorem dX4_hearing_153 : decode cX4_hearing 153 = .ok (.getfield 62, 3) := by decide +kernel
theorem dX4_hearing_156 : decode cX4_hearing 156 = .ok (.iconst 4, 1) := by decide +kernel
theorem dX4_hearing_157 : decode cX4_hearing 157 = .ok (.iload_n 1, 1) := by decide +kernel
theorem dX4_hearing_158 : decode cX4_hearing 158 = .ok (.imul, 1) := by decide +kernel
theorem dX4_hearing_159 : decode cX4_hearing 159 = .ok (.iconst 1, 1) := by decide +kernel
theorem dX4_hearing_160 : decode cX4_hearing 160 = .ok (.iadd, 1) := by decide +kernel
theorem dX4_hearing_161 : decode cX4_hearing 161 = .ok (.iaload, 1) := by decide +kernel
theorem dX4_hearing_162 : decode cX4_hearing 162 = .ok (.iadd, 1) := by decide +kernel
theorem dX4_hearing_163 : decode cX4_hearing 163 = .ok (.aload_n 0, 1) := by decide +kernel
theorem dX4_hearing_164 : decode cX4_hearing 164 = .ok (.getfield 62, 3) := by decide +kernel
theorem dX4_hearing_167 : decode cX4_hearing 167 = .ok (.iconst 4, 1) := by decide +kernel
theorem dX4_hearing_168 : decode cX4_hearing 168 = .ok (.iload_n 1, 1) := by decide +kernel
theorem dX4_hearing_169 : decode cX4_hearing 169 = .ok (.imul, 1) := by decide +kernel
theorem dX4_hearing_170 : decode cX4_hearing 170 = .ok (.iconst 2, 1) := by decide +kernel
theorem dX4_hearing_171 : decode cX4_hearing 171 = .ok (.iadd, 1) := by decide +kernel
theorem dX4_hearing_172 : decode cX4_hearing 172 = .ok (.iaload, 1) := by decide +kernel
theorem dX4_hearing_173 : decode cX4_hearing 173 = .ok (.iadd, 1) := by decide +kernel
theorem dX4_hearing_174 : decode cX4_hearing 174 = .ok (.aload_n 0, 1) := by decide +kernel
theorem dX4_hearing_175 : decode cX4_hearing 175 = .ok (.getfield 62, 3) := by decide +kernel
theorem dX4_hearing_178 : decode cX4_hearing 178 = .ok (.iconst 4, 1) := by decide +kernel
theorem dX4_hearing_179 : decode cX4_hearing 179 = .ok (.iload_n 1, 1) := by decide +kernel
theorem dX4_hearing_180 : decode cX4_hearing 180 = .ok (.imul, 1) := by decide +kernel
theorem dX4_hearing_181 : decode cX4_hearing 181 = .ok (.iconst 3, 1) := by decide +kernel
theorem dX4_hearing_182 : decode cX4_hearing 182 = .ok (.iadd, 1) := by decide +kernel
theorem dX4_hearing_183 : decode cX4_hearing 183 = .ok (.iaload, 1) := by decide +kernel
theorem dX4_hearing_184 : decode cX4_hearing 184 = .ok (.iadd, 1) := by decide +kernel
theorem dX4_hearing_185 : decode cX4_hearing 185 = .ok (.ireturn, 1) := by decide +kernel
theorem dX4_paidBy_0 : decode cX4_paidBy 0 = .ok (.aload_n 0, 1) := by decide +kernel
theorem dX4_paidBy_1 : decode cX4_paidBy 1 = .ok (.iload_n 1, 1) := by decide +kernel
theorem dX4_paidBy_2 : decode cX4_paidBy 2 = .ok (.iconst 0, 1) := by decide +kernel
theorem dX4_paidBy_3 : decode cX4_paidBy 3 = .ok (.iconst 3, 1) := by decide +kernel
theorem dX4_paidBy_4 : decode cX4_paidBy 4 = .ok (.invokestatic 78, 3) := by decide +kernel
theorem dX4_paidBy_7 : decode cX4_paidBy 7 = .ok (.ifCond .eq 18, 3) := by decide +kernel
theorem dX4_paidBy_10 : decode cX4_paidBy 10 = .ok (.iload_n 2, 1) := by decide +kernel
theorem dX4_paidBy_11 : decode cX4_paidBy 11 = .ok (.iconst 0, 1) := by decide +kernel
theorem dX4_paidBy_12 : decode cX4_paidBy 12 = .ok (.sipush 1003, 3) := by decide +kernel
theorem dX4_paidBy_15 : decode cX4_paidBy 15 = .ok (.invokestatic 78, 3) := by decide +kernel
theorem dX4_paidBy_18 : decode cX4_paidBy 18 = .ok (.ifCond .eq 7, 3) := by decide +kernel
theorem dX4_paidBy_21 : decode cX4_paidBy 21 = .ok (.iconst 0, 1) := by decide +kernel
theorem dX4_paidBy_22 : decode cX4_paidBy 22 = .ok (.goto 4, 3) := by decide +kernel
theorem dX4_paidBy_25 : decode cX4_paidBy 25 = .ok (.iconst 1, 1) := by decide +kernel
theorem dX4_paidBy_26 : decode cX4_paidBy 26 = .ok (.putfield 71, 3) := by decide +kernel
theorem dX4_paidBy_29 : decode cX4_paidBy 29 = .ok (.aload_n 0, 1) := by decide +kernel
theorem dX4_paidBy_30 : decode cX4_paidBy 30 = .ok (.getfield 71, 3) := by decide +kernel
theorem dX4_paidBy_33 : decode cX4_paidBy 33 = .ok (.ifCond .le 5, 3) := by decide +kernel
theorem dX4_paidBy_36 : decode cX4_paidBy 36 = .ok (.iconst 0, 1) := by decide +kernel
theorem dX4_paidBy_37 : decode cX4_paidBy 37 = .ok (.ireturn, 1) := by decide +kernel
theorem dX4_paidBy_38 : decode cX4_paidBy 38 = .ok (.iload_n 2, 1) := by decide +kernel
theorem dX4_paidBy_39 : decode cX4_paidBy 39 = .ok (.aload_n 0, 1) := by decide +kernel
theorem dX4_paidBy_40 : decode cX4_paidBy 40 = .ok (.getfield 85, 3) := by decide +kernel
theorem dX4_paidBy_43 : decode cX4_paidBy 43 = .ok (.if_icmp .le 20, 3) := by decide +kernel
theorem dX4_paidBy_46 : decode cX4_paidBy 46 = .ok (.aload_n 0, 1) := by decide +kernel
theorem dX4_paidBy_47 : decode cX4_paidBy 47 = .ok (.getfield 65, 3) := by decide +kernel
theorem dX4_paidBy_50 : decode cX4_paidBy 50 = .ok (.sipush 1004, 3) := by decide +kernel
theorem dX4_paidBy_53 : decode cX4_paidBy 53 = .ok (.iload_n 1, 1) := by decide +kernel
theorem dX4_paidBy_54 : decode cX4_paidBy 54 = .ok (.imul, 1) := by decide +kernel
theorem dX4_paidBy_55 : decode cX4_paidBy 55 = .ok (.iload_n 2, 1) := by decide +kernel
theorem dX4_paidBy_56 : decode cX4_paidBy 56 = .ok (.iadd, 1) := by decide +kernel
theorem dX4_paidBy_57 : decode cX4_paidBy 57 = .ok (.iaload, 1) := by decide +kernel
theorem dX4_paidBy_58 : decode cX4_paidBy 58 = .ok (.iconst 1, 1) := by decide +kernel
theorem dX4_paidBy_59 : decode cX4_paidBy 59 = .ok (.isub, 1) := by decide +kernel
theorem dX4_paidBy_60 : decode cX4_paidBy 60 = .ok (.goto 4, 3) := by decide +kernel
theorem dX4_paidBy_63 : decode cX4_paidBy 63 = .ok (.iconst (-1), 1) := by decide +kernel
theorem dX4_paidBy_64 : decode cX4_paidBy 64 = .ok (.ireturn, 1) := by decide +kernel
theorem dX4_balances_0 : decode cX4_balances 0 = .ok (.aload_n 0, 1) := by decide +kernel
theorem dX4_balances_1 : decode cX4_balances 1 = .ok (.iconst 0, 1) := by decide +kernel
theorem dX4_balances_2 : decode cX4_balances 2 = .ok (.putfield 71, 3) := by decide +kernel
theorem dX4_balances_5 : decode cX4_balances 5 = .ok (.iconst 0, 1) := by decide +kernel
theorem dX4_balances_6 : decode cX4_balances 6 = .ok (.istore_n 1, 1) := by decide +kernel
theorem dX4_balances_7 : decode cX4_balances 7 = .ok (.iconst 0, 1) := by decide +kernel
theorem dX4_balances_8 : decode cX4_balances 8 = .ok (.istore_n 2, 1) := by decide +kernel
theorem dX4_balances_9 : decode cX4_balances 9 = .ok (.iload_n 2, 1) := by decide +kernel
theorem dX4_balances_10 : decode cX4_balances 10 = .ok (.aload_n 0, 1) := by decide +kernel
theorem dX4_balances_11 : decode cX4_balances 11 = .ok (.getfield 75, 3) := by decide +kernel
theorem dX4_balances_14 : decode cX4_balances 14 = .ok (.if_icmp .ge 18, 3) := by decide +kernel
theorem dX4_balances_17 : decode cX4_balances 17 = .ok (.iload_n 1, 1) := by decide +kernel
theorem dX4_balances_18 : decode cX4_balances 18 = .ok (.aload_n 0, 1) := by decide +kernel
theorem dX4_balances_19 : decode cX4_balances 19 = .ok (.getfield 35, 3) := by decide +kernel
theorem dX4_balances_22 : decode cX4_balances 22 = .ok (.iload_n 2, 1) := by decide +kernel
theorem dX4_balances_23 : decode cX4_balances 23 = .ok (.iaload, 1) := by decide +kernel
theorem dX4_balances_24 : decode cX4_balances 24 = .ok (.iadd, 1) := by decide +kernel
theorem dX4_balances_25 : decode cX4_balances 25 = .ok (.istore_n 1, 1) := by decide +kernel
theorem dX4_balances_26 : decode cX4_balances 26 = .ok (.iinc 2 1, 3) := by decide +kernel
theorem dX4_balances_29 : decode cX4_balances 29 = .ok (.goto (-20), 3) := by decide +kernel
theorem dX4_balances_32 : decode cX4_balances 32 = .ok (.iload_n 1, 1) := by decide +kernel
theorem dX4_balances_33 : decode cX4_balances 33 = .ok (.ireturn, 1) := by decide +kernel
theorem dX4_hour_0 : decode cX4_hour 0 = .ok (.aload_n 0, 1) := by decide +kernel
theorem dX4_hour_1 : decode cX4_hour 1 = .ok (.iconst 0, 1) := by decide +kernel
theorem dX4_hour_2 : decode cX4_hour 2 = .ok (.putfield 71, 3) := by decide +kernel
theorem dX4_hour_5 : decode cX4_hour 5 = .ok (.aload_n 0, 1) := by decide +kernel
theorem dX4_hour_6 : decode cX4_hour 6 = .ok (.getfield 85, 3) := by decide +kernel
theorem dX4_hour_9 : decode cX4_hour 9 = .ok (.ireturn, 1) := by decide +kernel
theorem dL_interpreter_0 : decode cL_interpreter 0 = .ok (.aload 4, 2) := by decide +kernel
theorem dL_interpreter_2 : decode cL_interpreter 2 = .ok (.iconst 0, 1) := by decide +kernel
theorem dL_interpreter_3 : decode cL_interpreter 3 = .ok (.aload_n 0, 1) := by decide +kernel
theorem dL_interpreter_4 : decode cL_interpreter 4 = .ok (.iload_n 1, 1) := by decide +kernel
theorem dL_interpreter_5 : decode cL_interpreter 5 = .ok (.iload_n 2, 1) := by decide +kernel
theorem dL_interpreter_6 : decode cL_interpreter 6 = .ok (.iload_n 3, 1) := by decide +kernel
theorem dL_interpreter_7 : decode cL_interpreter 7 = .ok (.invokevirtual 7, 3) := by decide +kernel
theorem dL_interpreter_10 : decode cL_interpreter 10 = .ok (.i2l, 1) := by decide +kernel
theorem dL_interpreter_11 : decode cL_interpreter 11 = .ok (.lastore, 1) := by decide +kernel
theorem dL_interpreter_12 : decode cL_interpreter 12 = .ok (.goto 11, 3) := by decide +kernel
theorem dL_interpreter_15 : decode cL_interpreter 15 = .ok (.astore 5, 2) := by decide +kernel
theorem dL_interpreter_17 : decode cL_interpreter 17 = .ok (.iconst 1, 1) := by decide +kernel
theorem dL_interpreter_18 : decode cL_interpreter 18 = .ok (.ireturn, 1) := by decide +kernel
theorem dL_interpreter_19 : decode cL_interpreter 19 = .ok (.astore 5, 2) := by decide +kernel
theorem dL_interpreter_21 : decode cL_interpreter 21 = .ok (.iconst 2, 1) := by decide +kernel
theorem dL_interpreter_22 : decode cL_interpreter 22 = .ok (.ireturn, 1) := by decide +kernel
theorem dL_interpreter_23 : decode cL_interpreter 23 = .ok (.iconst 0, 1) := by decide +kernel
theorem dL_interpreter_24 : decode cL_interpreter 24 = .ok (.ireturn, 1) := by decide +kernel
theorem dL_waive_0 : decode cL_waive 0 = .ok (.aload_n 3, 1) := by decide +kernel
theorem dL_waive_1 : decode cL_waive 1 = .ok (.iconst 0, 1) := by decide +kernel
theorem dL_waive_2 : decode cL_waive 2 = .ok (.aload_n 0, 1) := by decide +kernel
theorem dL_waive_3 : decode cL_waive 3 = .ok (.iload_n 1, 1) := by decide +kernel
theorem dL_waive_4 : decode cL_waive 4 = .ok (.iload_n 2, 1) := by decide +kernel
theorem dL_waive_5 : decode cL_waive 5 = .ok (.invokevirtual 17, 3) := by decide +kernel
theorem dL_waive_8 : decode cL_waive 8 = .ok (.ifCond .eq 7, 3) := by decide +kernel
theorem dL_waive_11 : decode cL_waive 11 = .ok (.lconst 1, 1) := by decide +kernel
theorem dL_waive_12 : decode cL_waive 12 = .ok (.goto 4, 3) := by decide +kernel
theorem dL_waive_15 : decode cL_waive 15 = .ok (.lconst 0, 1) := by decide +kernel
theorem dL_waive_16 : decode cL_waive 16 = .ok (.lastore, 1) := by decide +kernel
theorem dL_waive_17 : decode cL_waive 17 = .ok (.goto 7, 3) := by decide +kernel
theorem dL_waive_20 : decode cL_waive 20 = .ok (.astore 4, 2) := by decide +kernel
theorem dL_waive_22 : decode cL_waive 22 = .ok (.iconst 1, 1) := by decide +kernel
theorem dL_waive_23 : decode cL_waive 23 = .ok (.ireturn, 1) := by decide +kernel
theorem dL_waive_24 : decode cL_waive 24 = .ok (.iconst 0, 1) := by decide +kernel
theorem dL_waive_25 : decode cL_waive 25 = .ok (.ireturn, 1) := by decide +kernel
theorem dL_file_0 : decode cL_file 0 = .ok (.aload 5, 2) := by decide +kernel
theorem dL_file_2 : decode cL_file 2 = .ok (.iconst 0, 1) := by decide +kernel
theorem dL_file_3 : decode cL_file 3 = .ok (.aload_n 0, 1) := by decide +kernel
theorem dL_file_4 : decode cL_file 4 = .ok (.iload_n 1, 1) := by decide +kernel
theorem dL_file_5 : decode cL_file 5 = .ok (.iload_n 2, 1) := by decide +kernel
theorem dL_file_6 : decode cL_file 6 = .ok (.iload_n 3, 1) := by decide +kernel
theorem dL_file_7 : decode cL_file 7 = .ok (.iload 4, 2) := by decide +kernel
theorem dL_file_9 : decode cL_file 9 = .ok (.invokevirtual 21, 3) := by decide +kernel
theorem dL_file_12 : decode cL_file 12 = .ok (.i2l, 1) := by decide +kernel
theorem dL_file_13 : decode cL_file 13 = .ok (.lastore, 1) := by decide +kernel
theorem dL_file_14 : decode cL_file 14 = .ok (.goto 15, 3) := by decide +kernel
theorem dL_file_17 : decode cL_file 17 = .ok (.astore 6, 2) := by decide +kernel
theorem dL_file_19 : decode cL_file 19 = .ok (.iconst 1, 1) := by decide +kernel
theorem dL_file_20 : decode cL_file 20 = .ok (.ireturn, 1) := by decide +kernel
theorem dL_file_21 : decode cL_file 21 = .ok (.astore 6, 2) := by decide +kernel
theorem dL_file_23 : decode cL_file 23 = .ok (.iconst 2, 1) := by decide +kernel
theorem dL_file_24 : decode cL_file 24 = .ok (.ireturn, 1) := by decide +kernel
theorem dL_file_25 : decode cL_file 25 = .ok (.astore 6, 2) := by decide +kernel
theorem dL_file_27 : decode cL_file 27 = .ok (.iconst 3, 1) := by decide +kernel
theorem dL_file_28 : decode cL_file 28 = .ok (.ireturn, 1) := by decide +kernel
theorem dL_file_29 : decode cL_file 29 = .ok (.iconst 0, 1) := by decide +kernel
theorem dL_file_30 : decode cL_file 30 = .ok (.ireturn, 1) := by decide +kernel
theorem dL_pay_0 : decode cL_pay 0 = .ok (.aload_n 3, 1) := by decide +kernel
theorem dL_pay_1 : decode cL_pay 1 = .ok (.iconst 0, 1) := by decide +kernel
theorem dL_pay_2 : decode cL_pay 2 = .ok (.aload_n 0, 1) := by decide +kernel
theorem dL_pay_3 : decode cL_pay 3 = .ok (.iload_n 1, 1) := by decide +kernel
theorem dL_pay_4 : decode cL_pay 4 = .ok (.iload_n 2, 1) := by decide +kernel
theorem dL_pay_5 : decode cL_pay 5 = .ok (.invokevirtual 27, 3) := by decide +kernel
theorem dL_pay_8 : decode cL_pay 8 = .ok (.i2l, 1) := by decide +kernel
theorem dL_pay_9 : decode cL_pay 9 = .ok (.lastore, 1) := by decide +kernel
theorem dL_pay_10 : decode cL_pay 10 = .ok (.goto 11, 3) := by decide +kernel
theorem dL_pay_13 : decode cL_pay 13 = .ok (.astore 4, 2) := by decide +kernel
theorem dL_pay_15 : decode cL_pay 15 = .ok (.iconst 1, 1) := by decide +kernel
theorem dL_pay_16 : decode cL_pay 16 = .ok (.ireturn, 1) := by decide +kernel
theorem dL_pay_17 : decode cL_pay 17 = .ok (.astore 4, 2) := by decide +kernel
theorem dL_pay_19 : decode cL_pay 19 = .ok (.iconst 2, 1) := by decide +kernel
theorem dL_pay_20 : decode cL_pay 20 = .ok (.ireturn, 1) := by decide +kernel
theorem dL_pay_21 : decode cL_pay 21 = .ok (.iconst 0, 1) := by decide +kernel
theorem dL_pay_22 : decode cL_pay 22 = .ok (.ireturn, 1) := by decide +kernel
theorem dL_decide_0 : decode cL_decide 0 = .ok (.aload_n 2, 1) := by decide +kernel
theorem dL_decide_1 : decode cL_decide 1 = .ok (.iconst 0, 1) := by decide +kernel
theorem dL_decide_2 : decode cL_decide 2 = .ok (.aload_n 0, 1) := by decide +kernel
theorem dL_decide_3 : decode cL_decide 3 = .ok (.iload_n 1, 1) := by decide +kernel
theorem dL_decide_4 : decode cL_decide 4 = .ok (.invokevirtual 31, 3) := by decide +kernel
theorem dL_decide_7 : decode cL_decide 7 = .ok (.i2l, 1) := by decide +kernel
theorem dL_decide_8 : decode cL_decide 8 = .ok (.lastore, 1) := by decide +kernel
theorem dL_decide_9 : decode cL_decide 9 = .ok (.goto 9, 3) := by decide +kernel
theorem dL_decide_12 : decode cL_decide 12 = .ok (.astore_n 3, 1) := by decide +kernel
theorem dL_decide_13 : decode cL_decide 13 = .ok (.iconst 1, 1) := by decide +kernel
theorem dL_decide_14 : decode cL_decide 14 = .ok (.ireturn, 1) := by decide +kernel
theorem dL_decide_15 : decode cL_decide 15 = .ok (.astore_n 3, 1) := by decide +kernel
theorem dL_decide_16 : decode cL_decide 16 = .ok (.iconst 2, 1) := by decide +kernel
theorem dL_decide_17 : decode cL_decide 17 = .ok (.ireturn, 1) := by decide +kernel
theorem dL_decide_18 : decode cL_decide 18 = .ok (.iconst 0, 1) := by decide +kernel
theorem dL_decide_19 : decode cL_decide 19 = .ok (.ireturn, 1) := by decide +kernel
theorem dL_appeal_0 : decode cL_appeal 0 = .ok (.aload_n 2, 1) := by decide +kernel
theorem dL_appeal_1 : decode cL_appeal 1 = .ok (.iconst 0, 1) := by decide +kernel
theorem dL_appeal_2 : decode cL_appeal 2 = .ok (.aload_n 0, 1) := by decide +kernel
theorem dL_appeal_3 : decode cL_appeal 3 = .ok (.iload_n 1, 1) := by decide +kernel
theorem dL_appeal_4 : decode cL_appeal 4 = .ok (.invokevirtual 35, 3) := by decide +kernel
theorem dL_appeal_7 : decode cL_appeal 7 = .ok (.i2l, 1) := by decide +kernel
theorem dL_appeal_8 : decode cL_appeal 8 = .ok (.lastore, 1) := by decide +kernel
theorem dL_appeal_9 : decode cL_appeal 9 = .ok (.goto 9, 3) := by decide +kernel
theorem dL_appeal_12 : decode cL_appeal 12 = .ok (.astore_n 3, 1) := by decide +kernel
theorem dL_appeal_13 : decode cL_appeal 13 = .ok (.iconst 1, 1) := by decide +kernel
theorem dL_appeal_14 : decode cL_appeal 14 = .ok (.ireturn, 1) := by decide +kernel
theorem dL_appeal_15 : decode cL_appeal 15 = .ok (.astore_n 3, 1) := by decide +kernel
theorem dL_appeal_16 : decode cL_appeal 16 = .ok (.iconst 2, 1) := by decide +kernel
theorem dL_appeal_17 : decode cL_appeal 17 = .ok (.ireturn, 1) := by decide +kernel
theorem dL_appeal_18 : decode cL_appeal 18 = .ok (.iconst 0, 1) := by decide +kernel
theorem dL_appeal_19 : decode cL_appeal 19 = .ok (.ireturn, 1) := by decide +kernel
theorem dL_settle_0 : decode cL_settle 0 = .ok (.aload_n 3, 1) := by decide +kernel
theorem dL_settle_1 : decode cL_settle 1 = .ok (.iconst 0, 1) := by decide +kernel
theorem dL_settle_2 : decode cL_settle 2 = .ok (.aload_n 0, 1) := by decide +kernel
theorem dL_settle_3 : decode cL_settle 3 = .ok (.iload_n 1, 1) := by decide +kernel
theorem dL_settle_4 : decode cL_settle 4 = .ok (.iload_n 2, 1) := by decide +kernel
theorem dL_settle_5 : decode cL_settle 5 = .ok (.invokevirtual 38, 3) := by decide +kernel
theorem dL_settle_8 : decode cL_settle 8 = .ok (.i2l, 1) := by decide +kernel
theorem dL_settle_9 : decode cL_settle 9 = .ok (.lastore, 1) := by decide +kernel
theorem dL_settle_10 : decode cL_settle 10 = .ok (.goto 11, 3) := by decide +kernel
theorem dL_settle_13 : decode cL_settle 13 = .ok (.astore 4, 2) := by decide +kernel
theorem dL_settle_15 : decode cL_settle 15 = .ok (.iconst 1, 1) := by decide +kernel
theorem dL_settle_16 : decode cL_settle 16 = .ok (.ireturn, 1) := by decide +kernel
theorem dL_settle_17 : decode cL_settle 17 = .ok (.astore 4, 2) := by decide +kernel
theorem dL_settle_19 : decode cL_settle 19 = .ok (.iconst 2, 1) := by decide +kernel
theorem dL_settle_20 : decode cL_settle 20 = .ok (.ireturn, 1) := by decide +kernel
theorem dL_settle_21 : decode cL_settle 21 = .ok (.iconst 0, 1) := by decide +kernel
theorem dL_settle_22 : decode cL_settle 22 = .ok (.ireturn, 1) := by decide +kernel
theorem dL_close_0 : decode cL_close 0 = .ok (.aload_n 2, 1) := by decide +kernel
theorem dL_close_1 : decode cL_close 1 = .ok (.iconst 0, 1) := by decide +kernel
theorem dL_close_2 : decode cL_close 2 = .ok (.aload_n 0, 1) := by decide +kernel
theorem dL_close_3 : decode cL_close 3 = .ok (.iload_n 1, 1) := by decide +kernel
theorem dL_close_4 : decode cL_close 4 = .ok (.invokevirtual 42, 3) := by decide +kernel
theorem dL_close_7 : decode cL_close 7 = .ok (.i2l, 1) := by decide +kernel
theorem dL_close_8 : decode cL_close 8 = .ok (.lastore, 1) := by decide +kernel
theorem dL_close_9 : decode cL_close 9 = .ok (.goto 9, 3) := by decide +kernel
theorem dL_close_12 : decode cL_close 12 = .ok (.astore_n 3, 1) := by decide +kernel
theorem dL_close_13 : decode cL_close 13 = .ok (.iconst 1, 1) := by decide +kernel
theorem dL_close_14 : decode cL_close 14 = .ok (.ireturn, 1) := by decide +kernel
theorem dL_close_15 : decode cL_close 15 = .ok (.astore_n 3, 1) := by decide +kernel
theorem dL_close_16 : decode cL_close 16 = .ok (.iconst 2, 1) := by decide +kernel
theorem dL_close_17 : decode cL_close 17 = .ok (.ireturn, 1) := by decide +kernel
theorem dL_close_18 : decode cL_close 18 = .ok (.iconst 0, 1) := by decide +kernel
theorem dL_close_19 : decode cL_close 19 = .ok (.ireturn, 1) := by decide +kernel
theorem dL_plan_0 : decode cL_plan 0 = .ok (.aload 6, 2) := by decide +kernel
theorem dL_plan_2 : decode cL_plan 2 = .ok (.iconst 0, 1) := by decide +kernel
theorem dL_plan_3 : decode cL_plan 3 = .ok (.aload_n 0, 1) := by decide +kernel
theorem dL_plan_4 : decode cL_plan 4 = .ok (.iload_n 1, 1) := by decide +kernel
theorem dL_plan_5 : decode cL_plan 5 = .ok (.iload_n 2, 1) := by decide +kernel
theorem dL_plan_6 : decode cL_plan 6 = .ok (.iload_n 3, 1) := by decide +kernel
theorem dL_plan_7 : decode cL_plan 7 = .ok (.iload 4, 2) := by decide +kernel
theorem dL_plan_9 : decode cL_plan 9 = .ok (.iload 5, 2) := by decide +kernel
theorem dL_plan_11 : decode cL_plan 11 = .ok (.invokevirtual 45, 3) := by decide +kernel
theorem dL_plan_14 : decode cL_plan 14 = .ok (.i2l, 1) := by decide +kernel
theorem dL_plan_15 : decode cL_plan 15 = .ok (.lastore, 1) := by decide +kernel
theorem dL_plan_16 : decode cL_plan 16 = .ok (.goto 15, 3) := by decide +kernel
theorem dL_plan_19 : decode cL_plan 19 = .ok (.astore 7, 2) := by decide +kernel
theorem dL_plan_21 : decode cL_plan 21 = .ok (.iconst 1, 1) := by decide +kernel
theorem dL_plan_22 : decode cL_plan 22 = .ok (.ireturn, 1) := by decide +kernel
theorem dL_plan_23 : decode cL_plan 23 = .ok (.astore 7, 2) := by decide +kernel
theorem dL_plan_25 : decode cL_plan 25 = .ok (.iconst 2, 1) := by decide +kernel
theorem dL_plan_26 : decode cL_plan 26 = .ok (.ireturn, 1) := by decide +kernel
theorem dL_plan_27 : decode cL_plan 27 = .ok (.astore 7, 2) := by decide +kernel
theorem dL_plan_29 : decode cL_plan 29 = .ok (.iconst 3, 1) := by decide +kernel
theorem dL_plan_30 : decode cL_plan 30 = .ok (.ireturn, 1) := by decide +kernel
theorem dL_plan_31 : decode cL_plan 31 = .ok (.iconst 0, 1) := by decide +kernel
theorem dL_plan_32 : decode cL_plan 32 = .ok (.ireturn, 1) := by decide +kernel
theorem dL_move_0 : decode cL_move 0 = .ok (.aload 5, 2) := by decide +kernel
theorem dL_move_2 : decode cL_move 2 = .ok (.iconst 0, 1) := by decide +kernel
theorem dL_move_3 : decode cL_move 3 = .ok (.aload_n 0, 1) := by decide +kernel
theorem dL_move_4 : decode cL_move 4 = .ok (.iload_n 1, 1) := by decide +kernel
theorem dL_move_5 : decode cL_move 5 = .ok (.iload_n 2, 1) := by decide +kernel
theorem dL_move_6 : decode cL_move 6 = .ok (.iload_n 3, 1) := by decide +kernel
theorem dL_move_7 : decode cL_move 7 = .ok (.iload 4, 2) := by decide +kernel
theorem dL_move_9 : decode cL_move 9 = .ok (.invokevirtual 49, 3) := by decide +kernel
theorem dL_move_12 : decode cL_move 12 = .ok (.i2l, 1) := by decide +kernel
theorem dL_move_13 : decode cL_move 13 = .ok (.lastore, 1) := by decide +kernel
theorem dL_move_14 : decode cL_move 14 = .ok (.goto 15, 3) := by decide +kernel
theorem dL_move_17 : decode cL_move 17 = .ok (.astore 6, 2) := by decide +kernel
theorem dL_move_19 : decode cL_move 19 = .ok (.iconst 1, 1) := by decide +kernel
theorem dL_move_20 : decode cL_move 20 = .ok (.ireturn, 1) := by decide +kernel
theorem dL_move_21 : decode cL_move 21 = .ok (.astore 6, 2) := by decide +kernel
theorem dL_move_23 : decode cL_move 23 = .ok (.iconst 2, 1) := by decide +kernel
theorem dL_move_24 : decode cL_move 24 = .ok (.ireturn, 1) := by decide +kernel
theorem dL_move_25 : decode cL_move 25 = .ok (.astore 6, 2) := by decide +kernel
theorem dL_move_27 : decode cL_move 27 = .ok (.iconst 3, 1) := by decide +kernel
theorem dL_move_28 : decode cL_move 28 = .ok (.ireturn, 1) := by decide +kernel
theorem dL_move_29 : decode cL_move 29 = .ok (.iconst 0, 1) := by decide +kernel
theorem dL_move_30 : decode cL_move 30 = .ok (.ireturn, 1) := by decide +kernel
theorem dL_drop_0 : decode cL_drop 0 = .ok (.aload_n 2, 1) := by decide +kernel
theorem dL_drop_1 : decode cL_drop 1 = .ok (.iconst 0, 1) := by decide +kernel
theorem dL_drop_2 : decode cL_drop 2 = .ok (.aload_n 0, 1) := by decide +kernel
theorem dL_drop_3 : decode cL_drop 3 = .ok (.iload_n 1, 1) := by decide +kernel
theorem dL_drop_4 : decode cL_drop 4 = .ok (.invokevirtual 52, 3) := by decide +kernel
theorem dL_drop_7 : decode cL_drop 7 = .ok (.i2l, 1) := by decide +kernel
theorem dL_drop_8 : decode cL_drop 8 = .ok (.lastore, 1) := by decide +kernel
theorem dL_drop_9 : decode cL_drop 9 = .ok (.goto 9, 3) := by decide +kernel
theorem dL_drop_12 : decode cL_drop 12 = .ok (.astore_n 3, 1) := by decide +kernel
theorem dL_drop_13 : decode cL_drop 13 = .ok (.iconst 1, 1) := by decide +kernel
theorem dL_drop_14 : decode cL_drop 14 = .ok (.ireturn, 1) := by decide +kernel
theorem dL_drop_15 : decode cL_drop 15 = .ok (.astore_n 3, 1) := by decide +kernel
theorem dL_drop_16 : decode cL_drop 16 = .ok (.iconst 2, 1) := by decide +kernel
theorem dL_drop_17 : decode cL_drop 17 = .ok (.ireturn, 1) := by decide +kernel
theorem dL_drop_18 : decode cL_drop 18 = .ok (.iconst 0, 1) := by decide +kernel
theorem dL_drop_19 : decode cL_drop 19 = .ok (.ireturn, 1) := by decide +kernel
theorem dL_notice_0 : decode cL_notice 0 = .ok (.aload_n 3, 1) := by decide +kernel
theorem dL_notice_1 : decode cL_notice 1 = .ok (.iconst 0, 1) := by decide +kernel
theorem dL_notice_2 : decode cL_notice 2 = .ok (.aload_n 0, 1) := by decide +kernel
theorem dL_notice_3 : decode cL_notice 3 = .ok (.iload_n 1, 1) := by decide +kernel
theorem dL_notice_4 : decode cL_notice 4 = .ok (.iload_n 2, 1) := by decide +kernel
theorem dL_notice_5 : decode cL_notice 5 = .ok (.invokevirtual 55, 3) := by decide +kernel
theorem dL_notice_8 : decode cL_notice 8 = .ok (.ifCond .eq 7, 3) := by decide +kernel
theorem dL_notice_11 : decode cL_notice 11 = .ok (.lconst 1, 1) := by decide +kernel
theorem dL_notice_12 : decode cL_notice 12 = .ok (.goto 4, 3) := by decide +kernel
theorem dL_notice_15 : decode cL_notice 15 = .ok (.lconst 0, 1) := by decide +kernel
theorem dL_notice_16 : decode cL_notice 16 = .ok (.lastore, 1) := by decide +kernel
theorem dL_notice_17 : decode cL_notice 17 = .ok (.goto 15, 3) := by decide +kernel
theorem dL_notice_20 : decode cL_notice 20 = .ok (.astore 4, 2) := by decide +kernel
theorem dL_notice_22 : decode cL_notice 22 = .ok (.iconst 1, 1) := by decide +kernel
theorem dL_notice_23 : decode cL_notice 23 = .ok (.ireturn, 1) := by decide +kernel
theorem dL_notice_24 : decode cL_notice 24 = .ok (.astore 4, 2) := by decide +kernel
theorem dL_notice_26 : decode cL_notice 26 = .ok (.iconst 2, 1) := by decide +kernel
theorem dL_notice_27 : decode cL_notice 27 = .ok (.ireturn, 1) := by decide +kernel
theorem dL_notice_28 : decode cL_notice 28 = .ok (.astore 4, 2) := by decide +kernel
theorem dL_notice_30 : decode cL_notice 30 = .ok (.iconst 3, 1) := by decide +kernel
theorem dL_notice_31 : decode cL_notice 31 = .ok (.ireturn, 1) := by decide +kernel
theorem dL_notice_32 : decode cL_notice 32 = .ok (.iconst 0, 1) := by decide +kernel
theorem dL_notice_33 : decode cL_notice 33 = .ok (.ireturn, 1) := by decide +kernel
theorem dL_pass_0 : decode cL_pass 0 = .ok (.aload_n 2, 1) := by decide +kernel
theorem dL_pass_1 : decode cL_pass 1 = .ok (.iconst 0, 1) := by decide +kernel
theorem dL_pass_2 : decode cL_pass 2 = .ok (.aload_n 0, 1) := by decide +kernel
theorem dL_pass_3 : decode cL_pass 3 = .ok (.iload_n 1, 1) := by decide +kernel
theorem dL_pass_4 : decode cL_pass 4 = .ok (.invokevirtual 59, 3) := by decide +kernel
theorem dL_pass_7 : decode cL_pass 7 = .ok (.i2l, 1) := by decide +kernel
theorem dL_pass_8 : decode cL_pass 8 = .ok (.lastore, 1) := by decide +kernel
theorem dL_pass_9 : decode cL_pass 9 = .ok (.goto 9, 3) := by decide +kernel
theorem dL_pass_12 : decode cL_pass 12 = .ok (.astore_n 3, 1) := by decide +kernel
theorem dL_pass_13 : decode cL_pass 13 = .ok (.iconst 1, 1) := by decide +kernel
theorem dL_pass_14 : decode cL_pass 14 = .ok (.ireturn, 1) := by decide +kernel
theorem dL_pass_15 : decode cL_pass 15 = .ok (.astore_n 3, 1) := by decide +kernel
theorem dL_pass_16 : decode cL_pass 16 = .ok (.iconst 2, 1) := by decide +kernel
theorem dL_pass_17 : decode cL_pass 17 = .ok (.ireturn, 1) := by decide +kernel
theorem dL_pass_18 : decode cL_pass 18 = .ok (.iconst 0, 1) := by decide +kernel
theorem dL_pass_19 : decode cL_pass 19 = .ok (.ireturn, 1) := by decide +kernel
theorem dL_clash_0 : decode cL_clash 0 = .ok (.aload 6, 2) := by decide +kernel
theorem dL_clash_2 : decode cL_clash 2 = .ok (.iconst 0, 1) := by decide +kernel
theorem dL_clash_3 : decode cL_clash 3 = .ok (.aload_n 0, 1) := by decide +kernel
theorem dL_clash_4 : decode cL_clash 4 = .ok (.iload_n 1, 1) := by decide +kernel
theorem dL_clash_5 : decode cL_clash 5 = .ok (.iload_n 2, 1) := by decide +kernel
theorem dL_clash_6 : decode cL_clash 6 = .ok (.iload_n 3, 1) := by decide +kernel
theorem dL_clash_7 : decode cL_clash 7 = .ok (.iload 4, 2) := by decide +kernel
theorem dL_clash_9 : decode cL_clash 9 = .ok (.iload 5, 2) := by decide +kernel
theorem dL_clash_11 : decode cL_clash 11 = .ok (.invokevirtual 62, 3) := by decide +kernel
theorem dL_clash_14 : decode cL_clash 14 = .ok (.i2l, 1) := by decide +kernel
theorem dL_clash_15 : decode cL_clash 15 = .ok (.lastore, 1) := by decide +kernel
theorem dL_clash_16 : decode cL_clash 16 = .ok (.goto 11, 3) := by decide +kernel
theorem dL_clash_19 : decode cL_clash 19 = .ok (.astore 7, 2) := by decide +kernel
theorem dL_clash_21 : decode cL_clash 21 = .ok (.iconst 1, 1) := by decide +kernel
theorem dL_clash_22 : decode cL_clash 22 = .ok (.ireturn, 1) := by decide +kernel
theorem dL_clash_23 : decode cL_clash 23 = .ok (.astore 7, 2) := by decide +kernel
theorem dL_clash_25 : decode cL_clash 25 = .ok (.iconst 2, 1) := by decide +kernel
theorem dL_clash_26 : decode cL_clash 26 = .ok (.ireturn, 1) := by decide +kernel
theorem dL_clash_27 : decode cL_clash 27 = .ok (.iconst 0, 1) := by decide +kernel
theorem dL_clash_28 : decode cL_clash 28 = .ok (.ireturn, 1) := by decide +kernel
theorem dL_at_0 : decode cL_at 0 = .ok (.aload 4, 2) := by decide +kernel
theorem dL_at_2 : decode cL_at 2 = .ok (.iconst 0, 1) := by decide +kernel
theorem dL_at_3 : decode cL_at 3 = .ok (.aload_n 0, 1) := by decide +kernel
theorem dL_at_4 : decode cL_at 4 = .ok (.iload_n 1, 1) := by decide +kernel
theorem dL_at_5 : decode cL_at 5 = .ok (.iload_n 2, 1) := by decide +kernel
theorem dL_at_6 : decode cL_at 6 = .ok (.iload_n 3, 1) := by decide +kernel
theorem dL_at_7 : decode cL_at 7 = .ok (.invokevirtual 65, 3) := by decide +kernel
theorem dL_at_10 : decode cL_at 10 = .ok (.i2l, 1) := by decide +kernel
theorem dL_at_11 : decode cL_at 11 = .ok (.lastore, 1) := by decide +kernel
theorem dL_at_12 : decode cL_at 12 = .ok (.goto 11, 3) := by decide +kernel
theorem dL_at_15 : decode cL_at 15 = .ok (.astore 5, 2) := by decide +kernel
theorem dL_at_17 : decode cL_at 17 = .ok (.iconst 1, 1) := by decide +kernel
theorem dL_at_18 : decode cL_at 18 = .ok (.ireturn, 1) := by decide +kernel
theorem dL_at_19 : decode cL_at 19 = .ok (.astore 5, 2) := by decide +kernel
theorem dL_at_21 : decode cL_at 21 = .ok (.iconst 2, 1) := by decide +kernel
theorem dL_at_22 : decode cL_at 22 = .ok (.ireturn, 1) := by decide +kernel
theorem dL_at_23 : decode cL_at 23 = .ok (.iconst 0, 1) := by decide +kernel
theorem dL_at_24 : decode cL_at 24 = .ok (.ireturn, 1) := by decide +kernel
theorem dL_about_0 : decode cL_about 0 = .ok (.aload_n 3, 1) := by decide +kernel
theorem dL_about_1 : decode cL_about 1 = .ok (.iconst 0, 1) := by decide +kernel
theorem dL_about_2 : decode cL_about 2 = .ok (.aload_n 0, 1) := by decide +kernel
theorem dL_about_3 : decode cL_about 3 = .ok (.iload_n 1, 1) := by decide +kernel
theorem dL_about_4 : decode cL_about 4 = .ok (.iload_n 2, 1) := by decide +kernel
theorem dL_about_5 : decode cL_about 5 = .ok (.invokevirtual 68, 3) := by decide +kernel
theorem dL_about_8 : decode cL_about 8 = .ok (.i2l, 1) := by decide +kernel
theorem dL_about_9 : decode cL_about 9 = .ok (.lastore, 1) := by decide +kernel
theorem dL_about_10 : decode cL_about 10 = .ok (.goto 11, 3) := by decide +kernel
theorem dL_about_13 : decode cL_about 13 = .ok (.astore 4, 2) := by decide +kernel
theorem dL_about_15 : decode cL_about 15 = .ok (.iconst 1, 1) := by decide +kernel
theorem dL_about_16 : decode cL_about 16 = .ok (.ireturn, 1) := by decide +kernel
theorem dL_about_17 : decode cL_about 17 = .ok (.astore 4, 2) := by decide +kernel
theorem dL_about_19 : decode cL_about 19 = .ok (.iconst 2, 1) := by decide +kernel
theorem dL_about_20 : decode cL_about 20 = .ok (.ireturn, 1) := by decide +kernel
theorem dL_about_21 : decode cL_about 21 = .ok (.iconst 0, 1) := by decide +kernel
theorem dL_about_22 : decode cL_about 22 = .ok (.ireturn, 1) := by decide +kernel
theorem dL_hearing_0 : decode cL_hearing 0 = .ok (.aload_n 3, 1) := by decide +kernel
theorem dL_hearing_1 : decode cL_hearing 1 = .ok (.iconst 0, 1) := by decide +kernel
theorem dL_hearing_2 : decode cL_hearing 2 = .ok (.aload_n 0, 1) := by decide +kernel
theorem dL_hearing_3 : decode cL_hearing 3 = .ok (.iload_n 1, 1) := by decide +kernel
theorem dL_hearing_4 : decode cL_hearing 4 = .ok (.iload_n 2, 1) := by decide +kernel
theorem dL_hearing_5 : decode cL_hearing 5 = .ok (.invokevirtual 71, 3) := by decide +kernel
theorem dL_hearing_8 : decode cL_hearing 8 = .ok (.i2l, 1) := by decide +kernel
theorem dL_hearing_9 : decode cL_hearing 9 = .ok (.lastore, 1) := by decide +kernel
theorem dL_hearing_10 : decode cL_hearing 10 = .ok (.goto 11, 3) := by decide +kernel
theorem dL_hearing_13 : decode cL_hearing 13 = .ok (.astore 4, 2) := by decide +kernel
theorem dL_hearing_15 : decode cL_hearing 15 = .ok (.iconst 1, 1) := by decide +kernel
theorem dL_hearing_16 : decode cL_hearing 16 = .ok (.ireturn, 1) := by decide +kernel
theorem dL_hearing_17 : decode cL_hearing 17 = .ok (.astore 4, 2) := by decide +kernel
theorem dL_hearing_19 : decode cL_hearing 19 = .ok (.iconst 2, 1) := by decide +kernel
theorem dL_hearing_20 : decode cL_hearing 20 = .ok (.ireturn, 1) := by decide +kernel
theorem dL_hearing_21 : decode cL_hearing 21 = .ok (.iconst 0, 1) := by decide +kernel
theorem dL_hearing_22 : decode cL_hearing 22 = .ok (.ireturn, 1) := by decide +kernel
theorem dL_paidBy_0 : decode cL_paidBy 0 = .ok (.aload_n 3, 1) := by decide +kernel
theorem dL_paidBy_1 : decode cL_paidBy 1 = .ok (.iconst 0, 1) := by decide +kernel
theorem dL_paidBy_2 : decode cL_paidBy 2 = .ok (.aload_n 0, 1) := by decide +kernel
theorem dL_paidBy_3 : decode cL_paidBy 3 = .ok (.iload_n 1, 1) := by decide +kernel
theorem dL_paidBy_4 : decode cL_paidBy 4 = .ok (.iload_n 2, 1) := by decide +kernel
theorem dL_paidBy_5 : decode cL_paidBy 5 = .ok (.invokevirtual 74, 3) := by decide +kernel
theorem dL_paidBy_8 : decode cL_paidBy 8 = .ok (.i2l, 1) := by decide +kernel
theorem dL_paidBy_9 : decode cL_paidBy 9 = .ok (.lastore, 1) := by decide +kernel
theorem dL_paidBy_10 : decode cL_paidBy 10 = .ok (.goto 7, 3) := by decide +kernel
theorem dL_paidBy_13 : decode cL_paidBy 13 = .ok (.astore 4, 2) := by decide +kernel
theorem dL_paidBy_15 : decode cL_paidBy 15 = .ok (.iconst 1, 1) := by decide +kernel
theorem dL_paidBy_16 : decode cL_paidBy 16 = .ok (.ireturn, 1) := by decide +kernel
theorem dL_paidBy_17 : decode cL_paidBy 17 = .ok (.iconst 0, 1) := by decide +kernel
theorem dL_paidBy_18 : decode cL_paidBy 18 = .ok (.ireturn, 1) := by decide +kernel
theorem dL_law_0 : decode cL_law 0 = .ok (.new 8, 3) := by decide +kernel
theorem dL_law_3 : decode cL_law 3 = .ok (.dup, 1) := by decide +kernel
theorem dL_law_4 : decode cL_law 4 = .ok (.invokespecial 77, 3) := by decide +kernel
theorem dL_law_7 : decode cL_law 7 = .ok (.astore_n 1, 1) := by decide +kernel
theorem dL_law_8 : decode cL_law 8 = .ok (.new 78, 3) := by decide +kernel
theorem dL_law_11 : decode cL_law 11 = .ok (.dup, 1) := by decide +kernel
theorem dL_law_12 : decode cL_law 12 = .ok (.invokespecial 80, 3) := by decide +kernel
theorem dL_law_15 : decode cL_law 15 = .ok (.astore_n 2, 1) := by decide +kernel
theorem dL_law_16 : decode cL_law 16 = .ok (.iconst 1, 1) := by decide +kernel
theorem dL_law_17 : decode cL_law 17 = .ok (.newarray .long, 2) := by decide +kernel
theorem dL_law_19 : decode cL_law 19 = .ok (.astore_n 3, 1) := by decide +kernel
theorem dL_law_20 : decode cL_law 20 = .ok (.iconst 0, 1) := by decide +kernel
theorem dL_law_21 : decode cL_law 21 = .ok (.istore 4, 2) := by decide +kernel
theorem dL_law_23 : decode cL_law 23 = .ok (.iload 4, 2) := by decide +kernel
theorem dL_law_25 : decode cL_law 25 = .ok (.aload_n 0, 1) := by decide +kernel
theorem dL_law_26 : decode cL_law 26 = .ok (.arraylength, 1) := by decide +kernel
theorem dL_law_27 : decode cL_law 27 = .ok (.bipush 6, 2) := by decide +kernel
theorem dL_law_29 : decode cL_law 29 = .ok (.isub, 1) := by decide +kernel
theorem dL_law_30 : decode cL_law 30 = .ok (.if_icmp .gt 1492, 3) := by decide +kernel
theorem dL_law_33 : decode cL_law 33 = .ok (.aload_n 0, 1) := by decide +kernel
theorem dL_law_34 : decode cL_law 34 = .ok (.iload 4, 2) := by decide +kernel
theorem dL_law_36 : decode cL_law 36 = .ok (.iaload, 1) := by decide +kernel
theorem dL_law_37 : decode cL_law 37 = .ok (.bipush 31, 2) := by decide +kernel
theorem dL_law_39 : decode cL_law 39 = .ok (.iand, 1) := by decide +kernel
theorem dL_law_40 : decode cL_law 40 = .ok (.tableswitch 1476 0 19 #[96, 176, 267, 359, 427, 483, 539, 623, 679, 783, 875, 931, 1006, 1062, 1166, 1246, 1314, 1382, 1450, 1463], 96) := by decide +kernel
theorem dL_law_136 : decode cL_law 136 = .ok (.aload_n 1, 1) := by decide +kernel
theorem dL_law_137 : decode cL_law 137 = .ok (.aload_n 0, 1) := by decide +kernel
theorem dL_law_138 : decode cL_law 138 = .ok (.iload 4, 2) := by decide +kernel
theorem dL_law_140 : decode cL_law 140 = .ok (.iconst 1, 1) := by decide +kernel
theorem dL_law_141 : decode cL_law 141 = .ok (.iadd, 1) := by decide +kernel
theorem dL_law_142 : decode cL_law 142 = .ok (.iaload, 1) := by decide +kernel
theorem dL_law_143 : decode cL_law 143 = .ok (.aload_n 0, 1) := by decide +kernel
theorem dL_law_144 : decode cL_law 144 = .ok (.iload 4, 2) := by decide +kernel
theorem dL_law_146 : decode cL_law 146 = .ok (.iconst 2, 1) := by decide +kernel
theorem dL_law_147 : decode cL_law 147 = .ok (.iadd, 1) := by decide +kernel
theorem dL_law_148 : decode cL_law 148 = .ok (.iaload, 1) := by decide +kernel
theorem dL_law_149 : decode cL_law 149 = .ok (.aload_n 0, 1) := by decide +kernel
theorem dL_law_150 : decode cL_law 150 = .ok (.iload 4, 2) := by decide +kernel
theorem dL_law_152 : decode cL_law 152 = .ok (.iconst 3, 1) := by decide +kernel
theorem dL_law_153 : decode cL_law 153 = .ok (.iadd, 1) := by decide +kernel
theorem dL_law_154 : decode cL_law 154 = .ok (.iaload, 1) := by decide +kernel
theorem dL_law_155 : decode cL_law 155 = .ok (.aload_n 3, 1) := by decide +kernel
theorem dL_law_156 : decode cL_law 156 = .ok (.invokestatic 81, 3) := by decide +kernel
theorem dL_law_159 : decode cL_law 159 = .ok (.istore 5, 2) := by decide +kernel
theorem dL_law_161 : decode cL_law 161 = .ok (.aload_n 2, 1) := by decide +kernel
theorem dL_law_162 : decode cL_law 162 = .ok (.aload_n 0, 1) := by decide +kernel
theorem dL_law_163 : decode cL_law 163 = .ok (.iload 4, 2) := by decide +kernel
theorem dL_law_165 : decode cL_law 165 = .ok (.iconst 1, 1) := by decide +kernel
theorem dL_law_166 : decode cL_law 166 = .ok (.iadd, 1) := by decide +kernel
theorem dL_law_167 : decode cL_law 167 = .ok (.iaload, 1) := by decide +kernel
theorem dL_law_168 : decode cL_law 168 = .ok (.aload_n 0, 1) := by decide +kernel
theorem dL_law_169 : decode cL_law 169 = .ok (.iload 4, 2) := by decide +kernel
theorem dL_law_171 : decode cL_law 171 = .ok (.iconst 2, 1) := by decide +kernel
theorem dL_law_172 : decode cL_law 172 = .ok (.iadd, 1) := by decide +kernel
theorem dL_law_173 : decode cL_law 173 = .ok (.iaload, 1) := by decide +kernel
theorem dL_law_174 : decode cL_law 174 = .ok (.aload_n 0, 1) := by decide +kernel
theorem dL_law_175 : decode cL_law 175 = .ok (.iload 4, 2) := by decide +kernel
theorem dL_law_177 : decode cL_law 177 = .ok (.iconst 3, 1) := by decide +kernel
theorem dL_law_178 : decode cL_law 178 = .ok (.iadd, 1) := by decide +kernel
theorem dL_law_179 : decode cL_law 179 = .ok (.iaload, 1) := by decide +kernel
theorem dL_law_180 : decode cL_law 180 = .ok (.invokevirtual 86, 3) := by decide +kernel
theorem dL_law_183 : decode cL_law 183 = .ok (.istore 6, 2) := by decide +kernel
theorem dL_law_185 : decode cL_law 185 = .ok (.aload_n 2, 1) := by decide +kernel
theorem dL_law_186 : decode cL_law 186 = .ok (.invokevirtual 87, 3) := by decide +kernel
theorem dL_law_189 : decode cL_law 189 = .ok (.iload 5, 2) := by decide +kernel
theorem dL_law_191 : decode cL_law 191 = .ok (.if_icmp .eq 5, 3) := by decide +kernel
theorem dL_law_194 : decode cL_law 194 = .ok (.iconst 0, 1) := by decide +kernel
theorem dL_law_195 : decode cL_law 195 = .ok (.ireturn, 1) := by decide +kernel
theorem dL_law_196 : decode cL_law 196 = .ok (.iload 5, 2) := by decide +kernel
theorem dL_law_198 : decode cL_law 198 = .ok (.ifCond .ne 15, 3) := by decide +kernel
theorem dL_law_201 : decode cL_law 201 = .ok (.aload_n 3, 1) := by decide +kernel
theorem dL_law_202 : decode cL_law 202 = .ok (.iconst 0, 1) := by decide +kernel
theorem dL_law_203 : decode cL_law 203 = .ok (.laload, 1) := by decide +kernel
theorem dL_law_204 : decode cL_law 204 = .ok (.iload 6, 2) := by decide +kernel
theorem dL_law_206 : decode cL_law 206 = .ok (.i2l, 1) := by decide +kernel
theorem dL_law_207 : decode cL_law 207 = .ok (.lcmp, 1) := by decide +kernel
theorem dL_law_208 : decode cL_law 208 = .ok (.ifCond .eq 5, 3) := by decide +kernel
theorem dL_law_211 : decode cL_law 211 = .ok (.iconst 0, 1) := by decide +kernel
theorem dL_law_212 : decode cL_law 212 = .ok (.ireturn, 1) := by decide +kernel
theorem dL_law_213 : decode cL_law 213 = .ok (.goto 1303, 3) := by decide +kernel
theorem dL_law_216 : decode cL_law 216 = .ok (.aload_n 1, 1) := by decide +kernel
theorem dL_law_217 : decode cL_law 217 = .ok (.aload_n 0, 1) := by decide +kernel
theorem dL_law_218 : decode cL_law 218 = .ok (.iload 4, 2) := by decide +kernel
theorem dL_law_220 : decode cL_law 220 = .ok (.iconst 1, 1) := by decide +kernel
theorem dL_law_221 : decode cL_law 221 = .ok (.iadd, 1) := by decide +kernel
theorem dL_law_222 : decode cL_law 222 = .ok (.iaload, 1) := by decide +kernel
theorem dL_law_223 : decode cL_law 223 = .ok (.aload_n 0, 1) := by decide +kernel
theorem dL_law_224 : decode cL_law 224 = .ok (.iload 4, 2) := by decide +kernel
theorem dL_law_226 : decode cL_law 226 = .ok (.iconst 2, 1) := by decide +kernel
theorem dL_law_227 : decode cL_law 227 = .ok (.iadd, 1) := by decide +kernel
theorem dL_law_228 : decode cL_law 228 = .ok (.iaload, 1) := by decide +kernel
theorem dL_law_229 : decode cL_law 229 = .ok (.ifCond .eq 7, 3) := by decide +kernel
theorem dL_law_232 : decode cL_law 232 = .ok (.iconst 1, 1) := by decide +kernel
theorem dL_law_233 : decode cL_law 233 = .ok (.goto 4, 3) := by decide +kernel
theorem dL_law_236 : decode cL_law 236 = .ok (.iconst 0, 1) := by decide +kernel
theorem dL_law_237 : decode cL_law 237 = .ok (.aload_n 3, 1) := by decide +kernel
theorem dL_law_238 : decode cL_law 238 = .ok (.invokestatic 91, 3) := by decide +kernel
theorem dL_law_241 : decode cL_law 241 = .ok (.istore 5, 2) := by decide +kernel
theorem dL_law_243 : decode cL_law 243 = .ok (.aload_n 2, 1) := by decide +kernel
theorem dL_law_244 : decode cL_law 244 = .ok (.aload_n 0, 1) := by decide +kernel
theorem dL_law_245 : decode cL_law 245 = .ok (.iload 4, 2) := by decide +kernel
theorem dL_law_247 : decode cL_law 247 = .ok (.iconst 1, 1) := by decide +kernel
theorem dL_law_248 : decode cL_law 248 = .ok (.iadd, 1) := by decide +kernel
theorem dL_law_249 : decode cL_law 249 = .ok (.iaload, 1) := by decide +kernel
theorem dL_law_250 : decode cL_law 250 = .ok (.aload_n 0, 1) := by decide +kernel
theorem dL_law_251 : decode cL_law 251 = .ok (.iload 4, 2) := by decide +kernel
theorem dL_law_253 : decode cL_law 253 = .ok (.iconst 2, 1) := by decide +kernel
theorem dL_law_254 : decode cL_law 254 = .ok (.iadd, 1) := by decide +kernel
theorem dL_law_255 : decode cL_law 255 = .ok (.iaload, 1) := by decide +kernel
theorem dL_law_256 : decode cL_law 256 = .ok (.ifCond .eq 7, 3) := by decide +kernel
theorem dL_law_259 : decode cL_law 259 = .ok (.iconst 1, 1) := by decide +kernel
theorem dL_law_260 : decode cL_law 260 = .ok (.goto 4, 3) := by decide +kernel
theorem dL_law_263 : decode cL_law 263 = .ok (.iconst 0, 1) := by decide +kernel
theorem dL_law_264 : decode cL_law 264 = .ok (.invokevirtual 94, 3) := by decide +kernel
theorem dL_law_267 : decode cL_law 267 = .ok (.istore 6, 2) := by decide +kernel
theorem dL_law_269 : decode cL_law 269 = .ok (.aload_n 2, 1) := by decide +kernel
theorem dL_law_270 : decode cL_law 270 = .ok (.invokevirtual 87, 3) := by decide +kernel
theorem dL_law_273 : decode cL_law 273 = .ok (.iload 5, 2) := by decide +kernel
theorem dL_law_275 : decode cL_law 275 = .ok (.if_icmp .eq 5, 3) := by decide +kernel
theorem dL_law_278 : decode cL_law 278 = .ok (.iconst 0, 1) := by decide +kernel
theorem dL_law_279 : decode cL_law 279 = .ok (.ireturn, 1) := by decide +kernel
theorem dL_law_280 : decode cL_law 280 = .ok (.iload 5, 2) := by decide +kernel
theorem dL_law_282 : decode cL_law 282 = .ok (.ifCond .ne 22, 3) := by decide +kernel
theorem dL_law_285 : decode cL_law 285 = .ok (.aload_n 3, 1) := by decide +kernel
theorem dL_law_286 : decode cL_law 286 = .ok (.iconst 0, 1) := by decide +kernel
theorem dL_law_287 : decode cL_law 287 = .ok (.laload, 1) := by decide +kernel
theorem dL_law_288 : decode cL_law 288 = .ok (.iload 6, 2) := by decide +kernel
theorem dL_law_290 : decode cL_law 290 = .ok (.ifCond .eq 7, 3) := by decide +kernel
theorem dL_law_293 : decode cL_law 293 = .ok (.lconst 1, 1) := by decide +kernel
theorem dL_law_294 : decode cL_law 294 = .ok (.goto 4, 3) := by decide +kernel
theorem dL_law_297 : decode cL_law 297 = .ok (.lconst 0, 1) := by decide +kernel
theorem dL_law_298 : decode cL_law 298 = .ok (.lcmp, 1) := by decide +kernel
theorem dL_law_299 : decode cL_law 299 = .ok (.ifCond .eq 5, 3) := by decide +kernel
theorem dL_law_302 : decode cL_law 302 = .ok (.iconst 0, 1) := by decide +kernel
theorem dL_law_303 : decode cL_law 303 = .ok (.ireturn, 1) := by decide +kernel
theorem dL_law_304 : decode cL_law 304 = .ok (.goto 1212, 3) := by decide +kernel
theorem dL_law_307 : decode cL_law 307 = .ok (.aload_n 1, 1) := by decide +kernel
theorem dL_law_308 : decode cL_law 308 = .ok (.aload_n 0, 1) := by decide +kernel
theorem dL_law_309 : decode cL_law 309 = .ok (.iload 4, 2) := by decide +kernel
theorem dL_law_311 : decode cL_law 311 = .ok (.iconst 1, 1) := by decide +kernel
theorem dL_law_312 : decode cL_law 312 = .ok (.iadd, 1) := by decide +kernel
theorem dL_law_313 : decode cL_law 313 = .ok (.iaload, 1) := by decide +kernel
theorem dL_law_314 : decode cL_law 314 = .ok (.aload_n 0, 1) := by decide +kernel
theorem dL_law_315 : decode cL_law 315 = .ok (.iload 4, 2) := by decide +kernel
theorem dL_law_317 : decode cL_law 317 = .ok (.iconst 2, 1) := by decide +kernel
theorem dL_law_318 : decode cL_law 318 = .ok (.iadd, 1) := by decide +kernel
theorem dL_law_319 : decode cL_law 319 = .ok (.iaload, 1) := by decide +kernel
theorem dL_law_320 : decode cL_law 320 = .ok (.aload_n 0, 1) := by decide +kernel
theorem dL_law_321 : decode cL_law 321 = .ok (.iload 4, 2) := by decide +kernel
theorem dL_law_323 : decode cL_law 323 = .ok (.iconst 3, 1) := by decide +kernel
theorem dL_law_324 : decode cL_law 324 = .ok (.iadd, 1) := by decide +kernel
theorem dL_law_325 : decode cL_law 325 = .ok (.iaload, 1) := by decide +kernel
theorem dL_law_326 : decode cL_law 326 = .ok (.aload_n 0, 1) := by decide +kernel
theorem dL_law_327 : decode cL_law 327 = .ok (.iload 4, 2) := by decide +kernel
theorem dL_law_329 : decode cL_law 329 = .ok (.iconst 4, 1) := by decide +kernel
theorem dL_law_330 : decode cL_law 330 = .ok (.iadd, 1) := by decide +kernel
theorem dL_law_331 : decode cL_law 331 = .ok (.iaload, 1) := by decide +kernel
theorem dL_law_332 : decode cL_law 332 = .ok (.aload_n 3, 1) := by decide +kernel
theorem dL_law_333 : decode cL_law 333 = .ok (.invokestatic 95, 3) := by decide +kernel
theorem dL_law_336 : decode cL_law 336 = .ok (.istore 5, 2) := by decide +kernel
theorem dL_law_338 : decode cL_law 338 = .ok (.aload_n 2, 1) := by decide +kernel
theorem dL_law_339 : decode cL_law 339 = .ok (.aload_n 0, 1) := by decide +kernel
theorem dL_law_340 : decode cL_law 340 = .ok (.iload 4, 2) := by decide +kernel
theorem dL_law_342 : decode cL_law 342 = .ok (.iconst 1, 1) := by decide +kernel
theorem dL_law_343 : decode cL_law 343 = .ok (.iadd, 1) := by decide +kernel
theorem dL_law_344 : decode cL_law 344 = .ok (.iaload, 1) := by decide +kernel
theorem dL_law_345 : decode cL_law 345 = .ok (.aload_n 0, 1) := by decide +kernel
theorem dL_law_346 : decode cL_law 346 = .ok (.iload 4, 2) := by decide +kernel
theorem dL_law_348 : decode cL_law 348 = .ok (.iconst 2, 1) := by decide +kernel
theorem dL_law_349 : decode cL_law 349 = .ok (.iadd, 1) := by decide +kernel
theorem dL_law_350 : decode cL_law 350 = .ok (.iaload, 1) := by decide +kernel
theorem dL_law_351 : decode cL_law 351 = .ok (.aload_n 0, 1) := by decide +kernel
theorem dL_law_352 : decode cL_law 352 = .ok (.iload 4, 2) := by decide +kernel
theorem dL_law_354 : decode cL_law 354 = .ok (.iconst 3, 1) := by decide +kernel
theorem dL_law_355 : decode cL_law 355 = .ok (.iadd, 1) := by decide +kernel
theorem dL_law_356 : decode cL_law 356 = .ok (.iaload, 1) := by decide +kernel
theorem dL_law_357 : decode cL_law 357 = .ok (.aload_n 0, 1) := by decide +kernel
theorem dL_law_358 : decode cL_law 358 = .ok (.iload 4, 2) := by decide +kernel
theorem dL_law_360 : decode cL_law 360 = .ok (.iconst 4, 1) := by decide +kernel
theorem dL_law_361 : decode cL_law 361 = .ok (.iadd, 1) := by decide +kernel
theorem dL_law_362 : decode cL_law 362 = .ok (.iaload, 1) := by decide +kernel
theorem dL_law_363 : decode cL_law 363 = .ok (.invokevirtual 98, 3) := by decide +kernel
theorem dL_law_366 : decode cL_law 366 = .ok (.istore 6, 2) := by decide +kernel
theorem dL_law_368 : decode cL_law 368 = .ok (.aload_n 2, 1) := by decide +kernel
theorem dL_law_369 : decode cL_law 369 = .ok (.invokevirtual 87, 3) := by decide +kernel
theorem dL_law_372 : decode cL_law 372 = .ok (.iload 5, 2) := by decide +kernel
theorem dL_law_374 : decode cL_law 374 = .ok (.if_icmp .eq 5, 3) := by decide +kernel
theorem dL_law_377 : decode cL_law 377 = .ok (.iconst 0, 1) := by decide +kernel
theorem dL_law_378 : decode cL_law 378 = .ok (.ireturn, 1) := by decide +kernel
theorem dL_law_379 : decode cL_law 379 = .ok (.iload 5, 2) := by decide +kernel
theorem dL_law_381 : decode cL_law 381 = .ok (.ifCond .ne 15, 3) := by decide +kernel
theorem dL_law_384 : decode cL_law 384 = .ok (.aload_n 3, 1) := by decide +kernel
theorem dL_law_385 : decode cL_law 385 = .ok (.iconst 0, 1) := by decide +kernel
theorem dL_law_386 : decode cL_law 386 = .ok (.laload, 1) := by decide +kernel
theorem dL_law_387 : decode cL_law 387 = .ok (.iload 6, 2) := by decide +kernel
theorem dL_law_389 : decode cL_law 389 = .ok (.i2l, 1) := by decide +kernel
theorem dL_law_390 : decode cL_law 390 = .ok (.lcmp, 1) := by decide +kernel
theorem dL_law_391 : decode cL_law 391 = .ok (.ifCond .eq 5, 3) := by decide +kernel
theorem dL_law_394 : decode cL_law 394 = .ok (.iconst 0, 1) := by decide +kernel
theorem dL_law_395 : decode cL_law 395 = .ok (.ireturn, 1) := by decide +kernel
theorem dL_law_396 : decode cL_law 396 = .ok (.goto 1120, 3) := by decide +kernel
theorem dL_law_399 : decode cL_law 399 = .ok (.aload_n 1, 1) := by decide +kernel
theorem dL_law_400 : decode cL_law 400 = .ok (.aload_n 0, 1) := by decide +kernel
theorem dL_law_401 : decode cL_law 401 = .ok (.iload 4, 2) := by decide +kernel
theorem dL_law_403 : decode cL_law 403 = .ok (.iconst 1, 1) := by decide +kernel
theorem dL_law_404 : decode cL_law 404 = .ok (.iadd, 1) := by decide +kernel
theorem dL_law_405 : decode cL_law 405 = .ok (.iaload, 1) := by decide +kernel
theorem dL_law_406 : decode cL_law 406 = .ok (.aload_n 0, 1) := by decide +kernel
theorem dL_law_407 : decode cL_law 407 = .ok (.iload 4, 2) := by decide +kernel
theorem dL_law_409 : decode cL_law 409 = .ok (.iconst 2, 1) := by decide +kernel
theorem dL_law_410 : decode cL_law 410 = .ok (.iadd, 1) := by decide +kernel
theorem dL_law_411 : decode cL_law 411 = .ok (.iaload, 1) := by decide +kernel
theorem dL_law_412 : decode cL_law 412 = .ok (.aload_n 3, 1) := by decide +kernel
theorem dL_law_413 : decode cL_law 413 = .ok (.invokestatic 99, 3) := by decide +kernel
theorem dL_law_416 : decode cL_law 416 = .ok (.istore 5, 2) := by decide +kernel
theorem dL_law_418 : decode cL_law 418 = .ok (.aload_n 2, 1) := by decide +kernel
theorem dL_law_419 : decode cL_law 419 = .ok (.aload_n 0, 1) := by decide +kernel
theorem dL_law_420 : decode cL_law 420 = .ok (.iload 4, 2) := by decide +kernel
theorem dL_law_422 : decode cL_law 422 = .ok (.iconst 1, 1) := by decide +kernel
theorem dL_law_423 : decode cL_law 423 = .ok (.iadd, 1) := by decide +kernel
theorem dL_law_424 : decode cL_law 424 = .ok (.iaload, 1) := by decide +kernel
theorem dL_law_425 : decode cL_law 425 = .ok (.aload_n 0, 1) := by decide +kernel
theorem dL_law_426 : decode cL_law 426 = .ok (.iload 4, 2) := by decide +kernel
theorem dL_law_428 : decode cL_law 428 = .ok (.iconst 2, 1) := by decide +kernel
theorem dL_law_429 : decode cL_law 429 = .ok (.iadd, 1) := by decide +kernel
theorem dL_law_430 : decode cL_law 430 = .ok (.iaload, 1) := by decide +kernel
theorem dL_law_431 : decode cL_law 431 = .ok (.invokevirtual 102, 3) := by decide +kernel
theorem dL_law_434 : decode cL_law 434 = .ok (.istore 6, 2) := by decide +kernel
theorem dL_law_436 : decode cL_law 436 = .ok (.aload_n 2, 1) := by decide +kernel
theorem dL_law_437 : decode cL_law 437 = .ok (.invokevirtual 87, 3) := by decide +kernel
theorem dL_law_440 : decode cL_law 440 = .ok (.iload 5, 2) := by decide +kernel
theorem dL_law_442 : decode cL_law 442 = .ok (.if_icmp .eq 5, 3) := by decide +kernel
theorem dL_law_445 : decode cL_law 445 = .ok (.iconst 0, 1) := by decide +kernel
theorem dL_law_446 : decode cL_law 446 = .ok (.ireturn, 1) := by decide +kernel
theorem dL_law_447 : decode cL_law 447 = .ok (.iload 5, 2) := by decide +kernel
theorem dL_law_449 : decode cL_law 449 = .ok (.ifCond .ne 15, 3) := by decide +kernel
theorem dL_law_452 : decode cL_law 452 = .ok (.aload_n 3, 1) := by decide +kernel
theorem dL_law_453 : decode cL_law 453 = .ok (.iconst 0, 1) := by decide +kernel
theorem dL_law_454 : decode cL_law 454 = .ok (.laload, 1) := by decide +kernel
theorem dL_law_455 : decode cL_law 455 = .ok (.iload 6, 2) := by decide +kernel
theorem dL_law_457 : decode cL_law 457 = .ok (.i2l, 1) := by decide +kernel
theorem dL_law_458 : decode cL_law 458 = .ok (.lcmp, 1) := by decide +kernel
theorem dL_law_459 : decode cL_law 459 = .ok (.ifCond .eq 5, 3) := by decide +kernel
theorem dL_law_462 : decode cL_law 462 = .ok (.iconst 0, 1) := by decide +kernel
theorem dL_law_463 : decode cL_law 463 = .ok (.ireturn, 1) := by decide +kernel
theorem dL_law_464 : decode cL_law 464 = .ok (.goto 1052, 3) := by decide +kernel
theorem dL_law_467 : decode cL_law 467 = .ok (.aload_n 1, 1) := by decide +kernel
theorem dL_law_468 : decode cL_law 468 = .ok (.aload_n 0, 1) := by decide +kernel
theorem dL_law_469 : decode cL_law 469 = .ok (.iload 4, 2) := by decide +kernel
theorem dL_law_471 : decode cL_law 471 = .ok (.iconst 1, 1) := by decide +kernel
theorem dL_law_472 : decode cL_law 472 = .ok (.iadd, 1) := by decide +kernel
theorem dL_law_473 : decode cL_law 473 = .ok (.iaload, 1) := by decide +kernel
theorem dL_law_474 : decode cL_law 474 = .ok (.aload_n 3, 1) := by decide +kernel
theorem dL_law_475 : decode cL_law 475 = .ok (.invokestatic 103, 3) := by decide +kernel
theorem dL_law_478 : decode cL_law 478 = .ok (.istore 5, 2) := by decide +kernel
theorem dL_law_480 : decode cL_law 480 = .ok (.aload_n 2, 1) := by decide +kernel
theorem dL_law_481 : decode cL_law 481 = .ok (.aload_n 0, 1) := by decide +kernel
theorem dL_law_482 : decode cL_law 482 = .ok (.iload 4, 2) := by decide +kernel
theorem dL_law_484 : decode cL_law 484 = .ok (.iconst 1, 1) := by decide +kernel
theorem dL_law_485 : decode cL_law 485 = .ok (.iadd, 1) := by decide +kernel
theorem dL_law_486 : decode cL_law 486 = .ok (.iaload, 1) := by decide +kernel
theorem dL_law_487 : decode cL_law 487 = .ok (.invokevirtual 106, 3) := by decide +kernel
theorem dL_law_490 : decode cL_law 490 = .ok (.istore 6, 2) := by decide +kernel
theorem dL_law_492 : decode cL_law 492 = .ok (.aload_n 2, 1) := by decide +kernel
theorem dL_law_493 : decode cL_law 493 = .ok (.invokevirtual 87, 3) := by decide +kernel
theorem dL_law_496 : decode cL_law 496 = .ok (.iload 5, 2) := by decide +kernel
theorem dL_law_498 : decode cL_law 498 = .ok (.if_icmp .eq 5, 3) := by decide +kernel
theorem dL_law_501 : decode cL_law 501 = .ok (.iconst 0, 1) := by decide +kernel
theorem dL_law_502 : decode cL_law 502 = .ok (.ireturn, 1) := by decide +kernel
theorem dL_law_503 : decode cL_law 503 = .ok (.iload 5, 2) := by decide +kernel
theorem dL_law_505 : decode cL_law 505 = .ok (.ifCond .ne 15, 3) := by decide +kernel
theorem dL_law_508 : decode cL_law 508 = .ok (.aload_n 3, 1) := by decide +kernel
theorem dL_law_509 : decode cL_law 509 = .ok (.iconst 0, 1) := by decide +kernel
theorem dL_law_510 : decode cL_law 510 = .ok (.laload, 1) := by decide +kernel
theorem dL_law_511 : decode cL_law 511 = .ok (.iload 6, 2) := by decide +kernel
theorem dL_law_513 : decode cL_law 513 = .ok (.i2l, 1) := by decide +kernel
theorem dL_law_514 : decode cL_law 514 = .ok (.lcmp, 1) := by decide +kernel
theorem dL_law_515 : decode cL_law 515 = .ok (.ifCond .eq 5, 3) := by decide +kernel
theorem dL_law_518 : decode cL_law 518 = .ok (.iconst 0, 1) := by decide +kernel
theorem dL_law_519 : decode cL_law 519 = .ok (.ireturn, 1) := by decide +kernel
theorem dL_law_520 : decode cL_law 520 = .ok (.goto 996, 3) := by decide +kernel
theorem dL_law_523 : decode cL_law 523 = .ok (.aload_n 1, 1) := by decide +kernel
theorem dL_law_524 : decode cL_law 524 = .ok (.aload_n 0, 1) := by decide +kernel
theorem dL_law_525 : decode cL_law 525 = .ok (.iload 4, 2) := by decide +kernel
theorem dL_law_527 : decode cL_law 527 = .ok (.iconst 1, 1) := by decide +kernel
theorem dL_law_528 : decode cL_law 528 = .ok (.iadd, 1) := by decide +kernel
theorem dL_law_529 : decode cL_law 529 = .ok (.iaload, 1) := by decide +kernel
theorem dL_law_530 : decode cL_law 530 = .ok (.aload_n 3, 1) := by decide +kernel
theorem dL_law_531 : decode cL_law 531 = .ok (.invokestatic 107, 3) := by decide +kernel
theorem dL_law_534 : decode cL_law 534 = .ok (.istore 5, 2) := by decide +kernel
theorem dL_law_536 : decode cL_law 536 = .ok (.aload_n 2, 1) := by decide +kernel
theorem dL_law_537 : decode cL_law 537 = .ok (.aload_n 0, 1) := by decide +kernel
theorem dL_law_538 : decode cL_law 538 = .ok (.iload 4, 2) := by decide +kernel
theorem dL_law_540 : decode cL_law 540 = .ok (.iconst 1, 1) := by decide +kernel
theorem dL_law_541 : decode cL_law 541 = .ok (.iadd, 1) := by decide +kernel
theorem dL_law_542 : decode cL_law 542 = .ok (.iaload, 1) := by decide +kernel
theorem dL_law_543 : decode cL_law 543 = .ok (.invokevirtual 109, 3) := by decide +kernel
theorem dL_law_546 : decode cL_law 546 = .ok (.istore 6, 2) := by decide +kernel
theorem dL_law_548 : decode cL_law 548 = .ok (.aload_n 2, 1) := by decide +kernel
theorem dL_law_549 : decode cL_law 549 = .ok (.invokevirtual 87, 3) := by decide +kernel
theorem dL_law_552 : decode cL_law 552 = .ok (.iload 5, 2) := by decide +kernel
theorem dL_law_554 : decode cL_law 554 = .ok (.if_icmp .eq 5, 3) := by decide +kernel
theorem dL_law_557 : decode cL_law 557 = .ok (.iconst 0, 1) := by decide +kernel
theorem dL_law_558 : decode cL_law 558 = .ok (.ireturn, 1) := by decide +kernel
theorem dL_law_559 : decode cL_law 559 = .ok (.iload 5, 2) := by decide +kernel
theorem dL_law_561 : decode cL_law 561 = .ok (.ifCond .ne 15, 3) := by decide +kernel
theorem dL_law_564 : decode cL_law 564 = .ok (.aload_n 3, 1) := by decide +kernel
theorem dL_law_565 : decode cL_law 565 = .ok (.iconst 0, 1) := by decide +kernel
theorem dL_law_566 : decode cL_law 566 = .ok (.laload, 1) := by decide +kernel
theorem dL_law_567 : decode cL_law 567 = .ok (.iload 6, 2) := by decide +kernel
theorem dL_law_569 : decode cL_law 569 = .ok (.i2l, 1) := by decide +kernel
theorem dL_law_570 : decode cL_law 570 = .ok (.lcmp, 1) := by decide +kernel
theorem dL_law_571 : decode cL_law 571 = .ok (.ifCond .eq 5, 3) := by decide +kernel
theorem dL_law_574 : decode cL_law 574 = .ok (.iconst 0, 1) := by decide +kernel
theorem dL_law_575 : decode cL_law 575 = .ok (.ireturn, 1) := by decide +kernel
theorem dL_law_576 : decode cL_law 576 = .ok (.goto 940, 3) := by decide +kernel
theorem dL_law_579 : decode cL_law 579 = .ok (.aload_n 1, 1) := by decide +kernel
theorem dL_law_580 : decode cL_law 580 = .ok (.aload_n 0, 1) := by decide +kernel
theorem dL_law_581 : decode cL_law 581 = .ok (.iload 4, 2) := by decide +kernel
theorem dL_law_583 : decode cL_law 583 = .ok (.iconst 1, 1) := by decide +kernel
theorem dL_law_584 : decode cL_law 584 = .ok (.iadd, 1) := by decide +kernel
theorem dL_law_585 : decode cL_law 585 = .ok (.iaload, 1) := by decide +kernel
theorem dL_law_586 : decode cL_law 586 = .ok (.aload_n 0, 1) := by decide +kernel
theorem dL_law_587 : decode cL_law 587 = .ok (.iload 4, 2) := by decide +kernel
theorem dL_law_589 : decode cL_law 589 = .ok (.iconst 2, 1) := by decide +kernel
theorem dL_law_590 : decode cL_law 590 = .ok (.iadd, 1) := by decide +kernel
theorem dL_law_591 : decode cL_law 591 = .ok (.iaload, 1) := by decide +kernel
theorem dL_law_592 : decode cL_law 592 = .ok (.ifCond .eq 7, 3) := by decide +kernel
theorem dL_law_595 : decode cL_law 595 = .ok (.iconst 1, 1) := by decide +kernel
theorem dL_law_596 : decode cL_law 596 = .ok (.goto 4, 3) := by decide +kernel
theorem dL_law_599 : decode cL_law 599 = .ok (.iconst 0, 1) := by decide +kernel
theorem dL_law_600 : decode cL_law 600 = .ok (.aload_n 3, 1) := by decide +kernel
theorem dL_law_601 : decode cL_law 601 = .ok (.invokestatic 110, 3) := by decide +kernel
theorem dL_law_604 : decode cL_law 604 = .ok (.istore 5, 2) := by decide +kernel
theorem dL_law_606 : decode cL_law 606 = .ok (.aload_n 2, 1) := by decide +kernel
theorem dL_law_607 : decode cL_law 607 = .ok (.aload_n 0, 1) := by decide +kernel
theorem dL_law_608 : decode cL_law 608 = .ok (.iload 4, 2) := by decide +kernel
theorem dL_law_610 : decode cL_law 610 = .ok (.iconst 1, 1) := by decide +kernel
theorem dL_law_611 : decode cL_law 611 = .ok (.iadd, 1) := by decide +kernel
theorem dL_law_612 : decode cL_law 612 = .ok (.iaload, 1) := by decide +kernel
theorem dL_law_613 : decode cL_law 613 = .ok (.aload_n 0, 1) := by decide +kernel
theorem dL_law_614 : decode cL_law 614 = .ok (.iload 4, 2) := by decide +kernel
theorem dL_law_616 : decode cL_law 616 = .ok (.iconst 2, 1) := by decide +kernel
theorem dL_law_617 : decode cL_law 617 = .ok (.iadd, 1) := by decide +kernel
theorem dL_law_618 : decode cL_law 618 = .ok (.iaload, 1) := by decide +kernel
theorem dL_law_619 : decode cL_law 619 = .ok (.ifCond .eq 7, 3) := by decide +kernel
theorem dL_law_622 : decode cL_law 622 = .ok (.iconst 1, 1) := by decide +kernel
theorem dL_law_623 : decode cL_law 623 = .ok (.goto 4, 3) := by decide +kernel
theorem dL_law_626 : decode cL_law 626 = .ok (.iconst 0, 1) := by decide +kernel
theorem dL_law_627 : decode cL_law 627 = .ok (.invokevirtual 112, 3) := by decide +kernel
theorem dL_law_630 : decode cL_law 630 = .ok (.istore 6, 2) := by decide +kernel
theorem dL_law_632 : decode cL_law 632 = .ok (.aload_n 2, 1) := by decide +kernel
theorem dL_law_633 : decode cL_law 633 = .ok (.invokevirtual 87, 3) := by decide +kernel
theorem dL_law_636 : decode cL_law 636 = .ok (.iload 5, 2) := by decide +kernel
theorem dL_law_638 : decode cL_law 638 = .ok (.if_icmp .eq 5, 3) := by decide +kernel
theorem dL_law_641 : decode cL_law 641 = .ok (.iconst 0, 1) := by decide +kernel
theorem dL_law_642 : decode cL_law 642 = .ok (.ireturn, 1) := by decide +kernel
theorem dL_law_643 : decode cL_law 643 = .ok (.iload 5, 2) := by decide +kernel
theorem dL_law_645 : decode cL_law 645 = .ok (.ifCond .ne 15, 3) := by decide +kernel
theorem dL_law_648 : decode cL_law 648 = .ok (.aload_n 3, 1) := by decide +kernel
theorem dL_law_649 : decode cL_law 649 = .ok (.iconst 0, 1) := by decide +kernel
theorem dL_law_650 : decode cL_law 650 = .ok (.laload, 1) := by decide +kernel
theorem dL_law_651 : decode cL_law 651 = .ok (.iload 6, 2) := by decide +kernel
theorem dL_law_653 : decode cL_law 653 = .ok (.i2l, 1) := by decide +kernel
theorem dL_law_654 : decode cL_law 654 = .ok (.lcmp, 1) := by decide +kernel
theorem dL_law_655 : decode cL_law 655 = .ok (.ifCond .eq 5, 3) := by decide +kernel
theorem dL_law_658 : decode cL_law 658 = .ok (.iconst 0, 1) := by decide +kernel
theorem dL_law_659 : decode cL_law 659 = .ok (.ireturn, 1) := by decide +kernel
theorem dL_law_660 : decode cL_law 660 = .ok (.goto 856, 3) := by decide +kernel
theorem dL_law_663 : decode cL_law 663 = .ok (.aload_n 1, 1) := by decide +kernel
theorem dL_law_664 : decode cL_law 664 = .ok (.aload_n 0, 1) := by decide +kernel
theorem dL_law_665 : decode cL_law 665 = .ok (.iload 4, 2) := by decide +kernel
theorem dL_law_667 : decode cL_law 667 = .ok (.iconst 1, 1) := by decide +kernel
theorem dL_law_668 : decode cL_law 668 = .ok (.iadd, 1) := by decide +kernel
theorem dL_law_669 : decode cL_law 669 = .ok (.iaload, 1) := by decide +kernel
theorem dL_law_670 : decode cL_law 670 = .ok (.aload_n 3, 1) := by decide +kernel
theorem dL_law_671 : decode cL_law 671 = .ok (.invokestatic 113, 3) := by decide +kernel
theorem dL_law_674 : decode cL_law 674 = .ok (.istore 5, 2) := by decide +kernel
theorem dL_law_676 : decode cL_law 676 = .ok (.aload_n 2, 1) := by decide +kernel
theorem dL_law_677 : decode cL_law 677 = .ok (.aload_n 0, 1) := by decide +kernel
theorem dL_law_678 : decode cL_law 678 = .ok (.iload 4, 2) := by decide +kernel
theorem dL_law_680 : decode cL_law 680 = .ok (.iconst 1, 1) := by decide +kernel
theorem dL_law_681 : decode cL_law 681 = .ok (.iadd, 1) := by decide +kernel
theorem dL_law_682 : decode cL_law 682 = .ok (.iaload, 1) := by decide +kernel
theorem dL_law_683 : decode cL_law 683 = .ok (.invokevirtual 115, 3) := by decide +kernel
theorem dL_law_686 : decode cL_law 686 = .ok (.istore 6, 2) := by decide +kernel
theorem dL_law_688 : decode cL_law 688 = .ok (.aload_n 2, 1) := by decide +kernel
theorem dL_law_689 : decode cL_law 689 = .ok (.invokevirtual 87, 3) := by decide +kernel
theorem dL_law_692 : decode cL_law 692 = .ok (.iload 5, 2) := by decide +kernel
theorem dL_law_694 : decode cL_law 694 = .ok (.if_icmp .eq 5, 3) := by decide +kernel
theorem dL_law_697 : decode cL_law 697 = .ok (.iconst 0, 1) := by decide +kernel
theorem dL_law_698 : decode cL_law 698 = .ok (.ireturn, 1) := by decide +kernel
theorem dL_law_699 : decode cL_law 699 = .ok (.iload 5, 2) := by decide +kernel
theorem dL_law_701 : decode cL_law 701 = .ok (.ifCond .ne 15, 3) := by decide +kernel
theorem dL_law_704 : decode cL_law 704 = .ok (.aload_n 3, 1) := by decide +kernel
theorem dL_law_705 : decode cL_law 705 = .ok (.iconst 0, 1) := by decide +kernel
theorem dL_law_706 : decode cL_law 706 = .ok (.laload, 1) := by decide +kernel
theorem dL_law_707 : decode cL_law 707 = .ok (.iload 6, 2) := by decide +kernel
theorem dL_law_709 : decode cL_law 709 = .ok (.i2l, 1) := by decide +kernel
theorem dL_law_710 : decode cL_law 710 = .ok (.lcmp, 1) := by decide +kernel
theorem dL_law_711 : decode cL_law 711 = .ok (.ifCond .eq 5, 3) := by decide +kernel
theorem dL_law_714 : decode cL_law 714 = .ok (.iconst 0, 1) := by decide +kernel
theorem dL_law_715 : decode cL_law 715 = .ok (.ireturn, 1) := by decide +kernel
theorem dL_law_716 : decode cL_law 716 = .ok (.goto 800, 3) := by decide +kernel
theorem dL_law_719 : decode cL_law 719 = .ok (.aload_n 1, 1) := by decide +kernel
theorem dL_law_720 : decode cL_law 720 = .ok (.aload_n 0, 1) := by decide +kernel
theorem dL_law_721 : decode cL_law 721 = .ok (.iload 4, 2) := by decide +kernel
theorem dL_law_723 : decode cL_law 723 = .ok (.iconst 1, 1) := by decide +kernel
theorem dL_law_724 : decode cL_law 724 = .ok (.iadd, 1) := by decide +kernel
theorem dL_law_725 : decode cL_law 725 = .ok (.iaload, 1) := by decide +kernel
theorem dL_law_726 : decode cL_law 726 = .ok (.aload_n 0, 1) := by decide +kernel
theorem dL_law_727 : decode cL_law 727 = .ok (.iload 4, 2) := by decide +kernel
theorem dL_law_729 : decode cL_law 729 = .ok (.iconst 2, 1) := by decide +kernel
theorem dL_law_730 : decode cL_law 730 = .ok (.iadd, 1) := by decide +kernel
theorem dL_law_731 : decode cL_law 731 = .ok (.iaload, 1) := by decide +kernel
theorem dL_law_732 : decode cL_law 732 = .ok (.aload_n 0, 1) := by decide +kernel
theorem dL_law_733 : decode cL_law 733 = .ok (.iload 4, 2) := by decide +kernel
theorem dL_law_735 : decode cL_law 735 = .ok (.iconst 3, 1) := by decide +kernel
theorem dL_law_736 : decode cL_law 736 = .ok (.iadd, 1) := by decide +kernel
theorem dL_law_737 : decode cL_law 737 = .ok (.iaload, 1) := by decide +kernel
theorem dL_law_738 : decode cL_law 738 = .ok (.aload_n 0, 1) := by decide +kernel
theorem dL_law_739 : decode cL_law 739 = .ok (.iload 4, 2) := by decide +kernel
theorem dL_law_741 : decode cL_law 741 = .ok (.iconst 4, 1) := by decide +kernel
theorem dL_law_742 : decode cL_law 742 = .ok (.iadd, 1) := by decide +kernel
theorem dL_law_743 : decode cL_law 743 = .ok (.iaload, 1) := by decide +kernel
theorem dL_law_744 : decode cL_law 744 = .ok (.aload_n 0, 1) := by decide +kernel
theorem dL_law_745 : decode cL_law 745 = .ok (.iload 4, 2) := by decide +kernel
theorem dL_law_747 : decode cL_law 747 = .ok (.iconst 5, 1) := by decide +kernel
theorem dL_law_748 : decode cL_law 748 = .ok (.iadd, 1) := by decide +kernel
theorem dL_law_749 : decode cL_law 749 = .ok (.iaload, 1) := by decide +kernel
theorem dL_law_750 : decode cL_law 750 = .ok (.aload_n 3, 1) := by decide +kernel
theorem dL_law_751 : decode cL_law 751 = .ok (.invokestatic 116, 3) := by decide +kernel
theorem dL_law_754 : decode cL_law 754 = .ok (.istore 5, 2) := by decide +kernel
theorem dL_law_756 : decode cL_law 756 = .ok (.aload_n 2, 1) := by decide +kernel
theorem dL_law_757 : decode cL_law 757 = .ok (.aload_n 0, 1) := by decide +kernel
theorem dL_law_758 : decode cL_law 758 = .ok (.iload 4, 2) := by decide +kernel
theorem dL_law_760 : decode cL_law 760 = .ok (.iconst 1, 1) := by decide +kernel
theorem dL_law_761 : decode cL_law 761 = .ok (.iadd, 1) := by decide +kernel
theorem dL_law_762 : decode cL_law 762 = .ok (.iaload, 1) := by decide +kernel
theorem dL_law_763 : decode cL_law 763 = .ok (.aload_n 0, 1) := by decide +kernel
theorem dL_law_764 : decode cL_law 764 = .ok (.iload 4, 2) := by decide +kernel
theorem dL_law_766 : decode cL_law 766 = .ok (.iconst 2, 1) := by decide +kernel
theorem dL_law_767 : decode cL_law 767 = .ok (.iadd, 1) := by decide +kernel
theorem dL_law_768 : decode cL_law 768 = .ok (.iaload, 1) := by decide +kernel
theorem dL_law_769 : decode cL_law 769 = .ok (.aload_n 0, 1) := by decide +kernel
theorem dL_law_770 : decode cL_law 770 = .ok (.iload 4, 2) := by decide +kernel
theorem dL_law_772 : decode cL_law 772 = .ok (.iconst 3, 1) := by decide +kernel
theorem dL_law_773 : decode cL_law 773 = .ok (.iadd, 1) := by decide +kernel
theorem dL_law_774 : decode cL_law 774 = .ok (.iaload, 1) := by decide +kernel
theorem dL_law_775 : decode cL_law 775 = .ok (.aload_n 0, 1) := by decide +kernel
theorem dL_law_776 : decode cL_law 776 = .ok (.iload 4, 2) := by decide +kernel
theorem dL_law_778 : decode cL_law 778 = .ok (.iconst 4, 1) := by decide +kernel
theorem dL_law_779 : decode cL_law 779 = .ok (.iadd, 1) := by decide +kernel
theorem dL_law_780 : decode cL_law 780 = .ok (.iaload, 1) := by decide +kernel
theorem dL_law_781 : decode cL_law 781 = .ok (.aload_n 0, 1) := by decide +kernel
theorem dL_law_782 : decode cL_law 782 = .ok (.iload 4, 2) := by decide +kernel
theorem dL_law_784 : decode cL_law 784 = .ok (.iconst 5, 1) := by decide +kernel
theorem dL_law_785 : decode cL_law 785 = .ok (.iadd, 1) := by decide +kernel
theorem dL_law_786 : decode cL_law 786 = .ok (.iaload, 1) := by decide +kernel
theorem dL_law_787 : decode cL_law 787 = .ok (.invokevirtual 119, 3) := by decide +kernel
theorem dL_law_790 : decode cL_law 790 = .ok (.istore 6, 2) := by decide +kernel
theorem dL_law_792 : decode cL_law 792 = .ok (.aload_n 2, 1) := by decide +kernel
theorem dL_law_793 : decode cL_law 793 = .ok (.invokevirtual 87, 3) := by decide +kernel
theorem dL_law_796 : decode cL_law 796 = .ok (.iload 5, 2) := by decide +kernel
theorem dL_law_798 : decode cL_law 798 = .ok (.if_icmp .eq 5, 3) := by decide +kernel
theorem dL_law_801 : decode cL_law 801 = .ok (.iconst 0, 1) := by decide +kernel
theorem dL_law_802 : decode cL_law 802 = .ok (.ireturn, 1) := by decide +kernel
theorem dL_law_803 : decode cL_law 803 = .ok (.iload 5, 2) := by decide +kernel
theorem dL_law_805 : decode cL_law 805 = .ok (.ifCond .ne 15, 3) := by decide +kernel
theorem dL_law_808 : decode cL_law 808 = .ok (.aload_n 3, 1) := by decide +kernel
theorem dL_law_809 : decode cL_law 809 = .ok (.iconst 0, 1) := by decide +kernel
theorem dL_law_810 : decode cL_law 810 = .ok (.laload, 1) := by decide +kernel
theorem dL_law_811 : decode cL_law 811 = .ok (.iload 6, 2) := by decide +kernel
theorem dL_law_813 : decode cL_law 813 = .ok (.i2l, 1) := by decide +kernel
theorem dL_law_814 : decode cL_law 814 = .ok (.lcmp, 1) := by decide +kernel
theorem dL_law_815 : decode cL_law 815 = .ok (.ifCond .eq 5, 3) := by decide +kernel
theorem dL_law_818 : decode cL_law 818 = .ok (.iconst 0, 1) := by decide +kernel
theorem dL_law_819 : decode cL_law 819 = .ok (.ireturn, 1) := by decide +kernel
theorem dL_law_820 : decode cL_law 820 = .ok (.goto 696, 3) := by decide +kernel
theorem dL_law_823 : decode cL_law 823 = .ok (.aload_n 1, 1) := by decide +kernel
theorem dL_law_824 : decode cL_law 824 = .ok (.aload_n 0, 1) := by decide +kernel
theorem dL_law_825 : decode cL_law 825 = .ok (.iload 4, 2) := by decide +kernel
theorem dL_law_827 : decode cL_law 827 = .ok (.iconst 1, 1) := by decide +kernel
theorem dL_law_828 : decode cL_law 828 = .ok (.iadd, 1) := by decide +kernel
theorem dL_law_829 : decode cL_law 829 = .ok (.iaload, 1) := by decide +kernel
theorem dL_law_830 : decode cL_law 830 = .ok (.aload_n 0, 1) := by decide +kernel
theorem dL_law_831 : decode cL_law 831 = .ok (.iload 4, 2) := by decide +kernel
theorem dL_law_833 : decode cL_law 833 = .ok (.iconst 2, 1) := by decide +kernel
theorem dL_law_834 : decode cL_law 834 = .ok (.iadd, 1) := by decide +kernel
theorem dL_law_835 : decode cL_law 835 = .ok (.iaload, 1) := by decide +kernel
theorem dL_law_836 : decode cL_law 836 = .ok (.aload_n 0, 1) := by decide +kernel
theorem dL_law_837 : decode cL_law 837 = .ok (.iload 4, 2) := by decide +kernel
theorem dL_law_839 : decode cL_law 839 = .ok (.iconst 3, 1) := by decide +kernel
theorem dL_law_840 : decode cL_law 840 = .ok (.iadd, 1) := by decide +kernel
theorem dL_law_841 : decode cL_law 841 = .ok (.iaload, 1) := by decide +kernel
theorem dL_law_842 : decode cL_law 842 = .ok (.aload_n 0, 1) := by decide +kernel
theorem dL_law_843 : decode cL_law 843 = .ok (.iload 4, 2) := by decide +kernel
theorem dL_law_845 : decode cL_law 845 = .ok (.iconst 4, 1) := by decide +kernel
theorem dL_law_846 : decode cL_law 846 = .ok (.iadd, 1) := by decide +kernel
theorem dL_law_847 : decode cL_law 847 = .ok (.iaload, 1) := by decide +kernel
theorem dL_law_848 : decode cL_law 848 = .ok (.aload_n 3, 1) := by decide +kernel
theorem dL_law_849 : decode cL_law 849 = .ok (.invokestatic 120, 3) := by decide +kernel
theorem dL_law_852 : decode cL_law 852 = .ok (.istore 5, 2) := by decide +kernel
theorem dL_law_854 : decode cL_law 854 = .ok (.aload_n 2, 1) := by decide +kernel
theorem dL_law_855 : decode cL_law 855 = .ok (.aload_n 0, 1) := by decide +kernel
theorem dL_law_856 : decode cL_law 856 = .ok (.iload 4, 2) := by decide +kernel
theorem dL_law_858 : decode cL_law 858 = .ok (.iconst 1, 1) := by decide +kernel
theorem dL_law_859 : decode cL_law 859 = .ok (.iadd, 1) := by decide +kernel
theorem dL_law_860 : decode cL_law 860 = .ok (.iaload, 1) := by decide +kernel
theorem dL_law_861 : decode cL_law 861 = .ok (.aload_n 0, 1) := by decide +kernel
theorem dL_law_862 : decode cL_law 862 = .ok (.iload 4, 2) := by decide +kernel
theorem dL_law_864 : decode cL_law 864 = .ok (.iconst 2, 1) := by decide +kernel
theorem dL_law_865 : decode cL_law 865 = .ok (.iadd, 1) := by decide +kernel
theorem dL_law_866 : decode cL_law 866 = .ok (.iaload, 1) := by decide +kernel
theorem dL_law_867 : decode cL_law 867 = .ok (.aload_n 0, 1) := by decide +kernel
theorem dL_law_868 : decode cL_law 868 = .ok (.iload 4, 2) := by decide +kernel
theorem dL_law_870 : decode cL_law 870 = .ok (.iconst 3, 1) := by decide +kernel
theorem dL_law_871 : decode cL_law 871 = .ok (.iadd, 1) := by decide +kernel
theorem dL_law_872 : decode cL_law 872 = .ok (.iaload, 1) := by decide +kernel
theorem dL_law_873 : decode cL_law 873 = .ok (.aload_n 0, 1) := by decide +kernel
theorem dL_law_874 : decode cL_law 874 = .ok (.iload 4, 2) := by decide +kernel
theorem dL_law_876 : decode cL_law 876 = .ok (.iconst 4, 1) := by decide +kernel
theorem dL_law_877 : decode cL_law 877 = .ok (.iadd, 1) := by decide +kernel
theorem dL_law_878 : decode cL_law 878 = .ok (.iaload, 1) := by decide +kernel
theorem dL_law_879 : decode cL_law 879 = .ok (.invokevirtual 122, 3) := by decide +kernel
theorem dL_law_882 : decode cL_law 882 = .ok (.istore 6, 2) := by decide +kernel
theorem dL_law_884 : decode cL_law 884 = .ok (.aload_n 2, 1) := by decide +kernel
theorem dL_law_885 : decode cL_law 885 = .ok (.invokevirtual 87, 3) := by decide +kernel
theorem dL_law_888 : decode cL_law 888 = .ok (.iload 5, 2) := by decide +kernel
theorem dL_law_890 : decode cL_law 890 = .ok (.if_icmp .eq 5, 3) := by decide +kernel
theorem dL_law_893 : decode cL_law 893 = .ok (.iconst 0, 1) := by decide +kernel
theorem dL_law_894 : decode cL_law 894 = .ok (.ireturn, 1) := by decide +kernel
theorem dL_law_895 : decode cL_law 895 = .ok (.iload 5, 2) := by decide +kernel
theorem dL_law_897 : decode cL_law 897 = .ok (.ifCond .ne 15, 3) := by decide +kernel
theorem dL_law_900 : decode cL_law 900 = .ok (.aload_n 3, 1) := by decide +kernel
theorem dL_law_901 : decode cL_law 901 = .ok (.iconst 0, 1) := by decide +kernel
theorem dL_law_902 : decode cL_law 902 = .ok (.laload, 1) := by decide +kernel
theorem dL_law_903 : decode cL_law 903 = .ok (.iload 6, 2) := by decide +kernel
theorem dL_law_905 : decode cL_law 905 = .ok (.i2l, 1) := by decide +kernel
theorem dL_law_906 : decode cL_law 906 = .ok (.lcmp, 1) := by decide +kernel
theorem dL_law_907 : decode cL_law 907 = .ok (.ifCond .eq 5, 3) := by decide +kernel
theorem dL_law_910 : decode cL_law 910 = .ok (.iconst 0, 1) := by decide +kernel
theorem dL_law_911 : decode cL_law 911 = .ok (.ireturn, 1) := by decide +kernel
theorem dL_law_912 : decode cL_law 912 = .ok (.goto 604, 3) := by decide +kernel
theorem dL_law_915 : decode cL_law 915 = .ok (.aload_n 1, 1) := by decide +kernel
theorem dL_law_916 : decode cL_law 916 = .ok (.aload_n 0, 1) := by decide +kernel
theorem dL_law_917 : decode cL_law 917 = .ok (.iload 4, 2) := by decide +kernel
theorem dL_law_919 : decode cL_law 919 = .ok (.iconst 1, 1) := by decide +kernel
theorem dL_law_920 : decode cL_law 920 = .ok (.iadd, 1) := by decide +kernel
theorem dL_law_921 : decode cL_law 921 = .ok (.iaload, 1) := by decide +kernel
theorem dL_law_922 : decode cL_law 922 = .ok (.aload_n 3, 1) := by decide +kernel
theorem dL_law_923 : decode cL_law 923 = .ok (.invokestatic 123, 3) := by decide +kernel
theorem dL_law_926 : decode cL_law 926 = .ok (.istore 5, 2) := by decide +kernel
theorem dL_law_928 : decode cL_law 928 = .ok (.aload_n 2, 1) := by decide +kernel
theorem dL_law_929 : decode cL_law 929 = .ok (.aload_n 0, 1) := by decide +kernel
theorem dL_law_930 : decode cL_law 930 = .ok (.iload 4, 2) := by decide +kernel
theorem dL_law_932 : decode cL_law 932 = .ok (.iconst 1, 1) := by decide +kernel
theorem dL_law_933 : decode cL_law 933 = .ok (.iadd, 1) := by decide +kernel
theorem dL_law_934 : decode cL_law 934 = .ok (.iaload, 1) := by decide +kernel
theorem dL_law_935 : decode cL_law 935 = .ok (.invokevirtual 125, 3) := by decide +kernel
theorem dL_law_938 : decode cL_law 938 = .ok (.istore 6, 2) := by decide +kernel
theorem dL_law_940 : decode cL_law 940 = .ok (.aload_n 2, 1) := by decide +kernel
theorem dL_law_941 : decode cL_law 941 = .ok (.invokevirtual 87, 3) := by decide +kernel
theorem dL_law_944 : decode cL_law 944 = .ok (.iload 5, 2) := by decide +kernel
theorem dL_law_946 : decode cL_law 946 = .ok (.if_icmp .eq 5, 3) := by decide +kernel
theorem dL_law_949 : decode cL_law 949 = .ok (.iconst 0, 1) := by decide +kernel
theorem dL_law_950 : decode cL_law 950 = .ok (.ireturn, 1) := by decide +kernel
theorem dL_law_951 : decode cL_law 951 = .ok (.iload 5, 2) := by decide +kernel
theorem dL_law_953 : decode cL_law 953 = .ok (.ifCond .ne 15, 3) := by decide +kernel
theorem dL_law_956 : decode cL_law 956 = .ok (.aload_n 3, 1) := by decide +kernel
theorem dL_law_957 : decode cL_law 957 = .ok (.iconst 0, 1) := by decide +kernel
theorem dL_law_958 : decode cL_law 958 = .ok (.laload, 1) := by decide +kernel
theorem dL_law_959 : decode cL_law 959 = .ok (.iload 6, 2) := by decide +kernel
theorem dL_law_961 : decode cL_law 961 = .ok (.i2l, 1) := by decide +kernel
theorem dL_law_962 : decode cL_law 962 = .ok (.lcmp, 1) := by decide +kernel
theorem dL_law_963 : decode cL_law 963 = .ok (.ifCond .eq 5, 3) := by decide +kernel
theorem dL_law_966 : decode cL_law 966 = .ok (.iconst 0, 1) := by decide +kernel
theorem dL_law_967 : decode cL_law 967 = .ok (.ireturn, 1) := by decide +kernel
theorem dL_law_968 : decode cL_law 968 = .ok (.goto 548, 3) := by decide +kernel
theorem dL_law_971 : decode cL_law 971 = .ok (.aload_n 1, 1) := by decide +kernel
theorem dL_law_972 : decode cL_law 972 = .ok (.aload_n 0, 1) := by decide +kernel
theorem dL_law_973 : decode cL_law 973 = .ok (.iload 4, 2) := by decide +kernel
theorem dL_law_975 : decode cL_law 975 = .ok (.iconst 1, 1) := by decide +kernel
theorem dL_law_976 : decode cL_law 976 = .ok (.iadd, 1) := by decide +kernel
theorem dL_law_977 : decode cL_law 977 = .ok (.iaload, 1) := by decide +kernel
theorem dL_law_978 : decode cL_law 978 = .ok (.aload_n 0, 1) := by decide +kernel
theorem dL_law_979 : decode cL_law 979 = .ok (.iload 4, 2) := by decide +kernel
theorem dL_law_981 : decode cL_law 981 = .ok (.iconst 2, 1) := by decide +kernel
theorem dL_law_982 : decode cL_law 982 = .ok (.iadd, 1) := by decide +kernel
theorem dL_law_983 : decode cL_law 983 = .ok (.iaload, 1) := by decide +kernel
theorem dL_law_984 : decode cL_law 984 = .ok (.aload_n 3, 1) := by decide +kernel
theorem dL_law_985 : decode cL_law 985 = .ok (.invokestatic 126, 3) := by decide +kernel
theorem dL_law_988 : decode cL_law 988 = .ok (.istore 5, 2) := by decide +kernel
theorem dL_law_990 : decode cL_law 990 = .ok (.aload_n 2, 1) := by decide +kernel
theorem dL_law_991 : decode cL_law 991 = .ok (.aload_n 0, 1) := by decide +kernel
theorem dL_law_992 : decode cL_law 992 = .ok (.iload 4, 2) := by decide +kernel
theorem dL_law_994 : decode cL_law 994 = .ok (.iconst 1, 1) := by decide +kernel
theorem dL_law_995 : decode cL_law 995 = .ok (.iadd, 1) := by decide +kernel
theorem dL_law_996 : decode cL_law 996 = .ok (.iaload, 1) := by decide +kernel
theorem dL_law_997 : decode cL_law 997 = .ok (.aload_n 0, 1) := by decide +kernel
theorem dL_law_998 : decode cL_law 998 = .ok (.iload 4, 2) := by decide +kernel
theorem dL_law_1000 : decode cL_law 1000 = .ok (.iconst 2, 1) := by decide +kernel
theorem dL_law_1001 : decode cL_law 1001 = .ok (.iadd, 1) := by decide +kernel
theorem dL_law_1002 : decode cL_law 1002 = .ok (.iaload, 1) := by decide +kernel
theorem dL_law_1003 : decode cL_law 1003 = .ok (.invokevirtual 128, 3) := by decide +kernel
theorem dL_law_1006 : decode cL_law 1006 = .ok (.istore 6, 2) := by decide +kernel
theorem dL_law_1008 : decode cL_law 1008 = .ok (.aload_n 2, 1) := by decide +kernel
theorem dL_law_1009 : decode cL_law 1009 = .ok (.invokevirtual 87, 3) := by decide +kernel
theorem dL_law_1012 : decode cL_law 1012 = .ok (.iload 5, 2) := by decide +kernel
theorem dL_law_1014 : decode cL_law 1014 = .ok (.if_icmp .eq 5, 3) := by decide +kernel
theorem dL_law_1017 : decode cL_law 1017 = .ok (.iconst 0, 1) := by decide +kernel
theorem dL_law_1018 : decode cL_law 1018 = .ok (.ireturn, 1) := by decide +kernel
theorem dL_law_1019 : decode cL_law 1019 = .ok (.iload 5, 2) := by decide +kernel
theorem dL_law_1021 : decode cL_law 1021 = .ok (.ifCond .ne 22, 3) := by decide +kernel
theorem dL_law_1024 : decode cL_law 1024 = .ok (.aload_n 3, 1) := by decide +kernel
theorem dL_law_1025 : decode cL_law 1025 = .ok (.iconst 0, 1) := by decide +kernel
theorem dL_law_1026 : decode cL_law 1026 = .ok (.laload, 1) := by decide +kernel
theorem dL_law_1027 : decode cL_law 1027 = .ok (.iload 6, 2) := by decide +kernel
theorem dL_law_1029 : decode cL_law 1029 = .ok (.ifCond .eq 7, 3) := by decide +kernel
theorem dL_law_1032 : decode cL_law 1032 = .ok (.lconst 1, 1) := by decide +kernel
theorem dL_law_1033 : decode cL_law 1033 = .ok (.goto 4, 3) := by decide +kernel
theorem dL_law_1036 : decode cL_law 1036 = .ok (.lconst 0, 1) := by decide +kernel
theorem dL_law_1037 : decode cL_law 1037 = .ok (.lcmp, 1) := by decide +kernel
theorem dL_law_1038 : decode cL_law 1038 = .ok (.ifCond .eq 5, 3) := by decide +kernel
theorem dL_law_1041 : decode cL_law 1041 = .ok (.iconst 0, 1) := by decide +kernel
theorem dL_law_1042 : decode cL_law 1042 = .ok (.ireturn, 1) := by decide +kernel
theorem dL_law_1043 : decode cL_law 1043 = .ok (.goto 473, 3) := by decide +kernel
theorem dL_law_1046 : decode cL_law 1046 = .ok (.aload_n 1, 1) := by decide +kernel
theorem dL_law_1047 : decode cL_law 1047 = .ok (.aload_n 0, 1) := by decide +kernel
theorem dL_law_1048 : decode cL_law 1048 = .ok (.iload 4, 2) := by decide +kernel
theorem dL_law_1050 : decode cL_law 1050 = .ok (.iconst 1, 1) := by decide +kernel
theorem dL_law_1051 : decode cL_law 1051 = .ok (.iadd, 1) := by decide +kernel
theorem dL_law_1052 : decode cL_law 1052 = .ok (.iaload, 1) := by decide +kernel
theorem dL_law_1053 : decode cL_law 1053 = .ok (.aload_n 3, 1) := by decide +kernel
theorem dL_law_1054 : decode cL_law 1054 = .ok (.invokestatic 129, 3) := by decide +kernel
theorem dL_law_1057 : decode cL_law 1057 = .ok (.istore 5, 2) := by decide +kernel
theorem dL_law_1059 : decode cL_law 1059 = .ok (.aload_n 2, 1) := by decide +kernel
theorem dL_law_1060 : decode cL_law 1060 = .ok (.aload_n 0, 1) := by decide +kernel
theorem dL_law_1061 : decode cL_law 1061 = .ok (.iload 4, 2) := by decide +kernel
theorem dL_law_1063 : decode cL_law 1063 = .ok (.iconst 1, 1) := by decide +kernel
theorem dL_law_1064 : decode cL_law 1064 = .ok (.iadd, 1) := by decide +kernel
theorem dL_law_1065 : decode cL_law 1065 = .ok (.iaload, 1) := by decide +kernel
theorem dL_law_1066 : decode cL_law 1066 = .ok (.invokevirtual 131, 3) := by decide +kernel
theorem dL_law_1069 : decode cL_law 1069 = .ok (.istore 6, 2) := by decide +kernel
theorem dL_law_1071 : decode cL_law 1071 = .ok (.aload_n 2, 1) := by decide +kernel
theorem dL_law_1072 : decode cL_law 1072 = .ok (.invokevirtual 87, 3) := by decide +kernel
theorem dL_law_1075 : decode cL_law 1075 = .ok (.iload 5, 2) := by decide +kernel
theorem dL_law_1077 : decode cL_law 1077 = .ok (.if_icmp .eq 5, 3) := by decide +kernel
theorem dL_law_1080 : decode cL_law 1080 = .ok (.iconst 0, 1) := by decide +kernel
theorem dL_law_1081 : decode cL_law 1081 = .ok (.ireturn, 1) := by decide +kernel
theorem dL_law_1082 : decode cL_law 1082 = .ok (.iload 5, 2) := by decide +kernel
theorem dL_law_1084 : decode cL_law 1084 = .ok (.ifCond .ne 15, 3) := by decide +kernel
theorem dL_law_1087 : decode cL_law 1087 = .ok (.aload_n 3, 1) := by decide +kernel
theorem dL_law_1088 : decode cL_law 1088 = .ok (.iconst 0, 1) := by decide +kernel
theorem dL_law_1089 : decode cL_law 1089 = .ok (.laload, 1) := by decide +kernel
theorem dL_law_1090 : decode cL_law 1090 = .ok (.iload 6, 2) := by decide +kernel
theorem dL_law_1092 : decode cL_law 1092 = .ok (.i2l, 1) := by decide +kernel
theorem dL_law_1093 : decode cL_law 1093 = .ok (.lcmp, 1) := by decide +kernel
theorem dL_law_1094 : decode cL_law 1094 = .ok (.ifCond .eq 5, 3) := by decide +kernel
theorem dL_law_1097 : decode cL_law 1097 = .ok (.iconst 0, 1) := by decide +kernel
theorem dL_law_1098 : decode cL_law 1098 = .ok (.ireturn, 1) := by decide +kernel
theorem dL_law_1099 : decode cL_law 1099 = .ok (.goto 417, 3) := by decide +kernel
theorem dL_law_1102 : decode cL_law 1102 = .ok (.aload_n 1, 1) := by decide +kernel
theorem dL_law_1103 : decode cL_law 1103 = .ok (.aload_n 0, 1) := by decide +kernel
theorem dL_law_1104 : decode cL_law 1104 = .ok (.iload 4, 2) := by decide +kernel
theorem dL_law_1106 : decode cL_law 1106 = .ok (.iconst 1, 1) := by decide +kernel
theorem dL_law_1107 : decode cL_law 1107 = .ok (.iadd, 1) := by decide +kernel
theorem dL_law_1108 : decode cL_law 1108 = .ok (.iaload, 1) := by decide +kernel
theorem dL_law_1109 : decode cL_law 1109 = .ok (.aload_n 0, 1) := by decide +kernel
theorem dL_law_1110 : decode cL_law 1110 = .ok (.iload 4, 2) := by decide +kernel
theorem dL_law_1112 : decode cL_law 1112 = .ok (.iconst 2, 1) := by decide +kernel
theorem dL_law_1113 : decode cL_law 1113 = .ok (.iadd, 1) := by decide +kernel
theorem dL_law_1114 : decode cL_law 1114 = .ok (.iaload, 1) := by decide +kernel
theorem dL_law_1115 : decode cL_law 1115 = .ok (.aload_n 0, 1) := by decide +kernel
theorem dL_law_1116 : decode cL_law 1116 = .ok (.iload 4, 2) := by decide +kernel
theorem dL_law_1118 : decode cL_law 1118 = .ok (.iconst 3, 1) := by decide +kernel
theorem dL_law_1119 : decode cL_law 1119 = .ok (.iadd, 1) := by decide +kernel
theorem dL_law_1120 : decode cL_law 1120 = .ok (.iaload, 1) := by decide +kernel
theorem dL_law_1121 : decode cL_law 1121 = .ok (.aload_n 0, 1) := by decide +kernel
theorem dL_law_1122 : decode cL_law 1122 = .ok (.iload 4, 2) := by decide +kernel
theorem dL_law_1124 : decode cL_law 1124 = .ok (.iconst 4, 1) := by decide +kernel
theorem dL_law_1125 : decode cL_law 1125 = .ok (.iadd, 1) := by decide +kernel
theorem dL_law_1126 : decode cL_law 1126 = .ok (.iaload, 1) := by decide +kernel
theorem dL_law_1127 : decode cL_law 1127 = .ok (.aload_n 0, 1) := by decide +kernel
theorem dL_law_1128 : decode cL_law 1128 = .ok (.iload 4, 2) := by decide +kernel
theorem dL_law_1130 : decode cL_law 1130 = .ok (.iconst 5, 1) := by decide +kernel
theorem dL_law_1131 : decode cL_law 1131 = .ok (.iadd, 1) := by decide +kernel
theorem dL_law_1132 : decode cL_law 1132 = .ok (.iaload, 1) := by decide +kernel
theorem dL_law_1133 : decode cL_law 1133 = .ok (.aload_n 3, 1) := by decide +kernel
theorem dL_law_1134 : decode cL_law 1134 = .ok (.invokestatic 132, 3) := by decide +kernel
theorem dL_law_1137 : decode cL_law 1137 = .ok (.istore 5, 2) := by decide +kernel
theorem dL_law_1139 : decode cL_law 1139 = .ok (.aload_n 2, 1) := by decide +kernel
theorem dL_law_1140 : decode cL_law 1140 = .ok (.aload_n 0, 1) := by decide +kernel
theorem dL_law_1141 : decode cL_law 1141 = .ok (.iload 4, 2) := by decide +kernel
theorem dL_law_1143 : decode cL_law 1143 = .ok (.iconst 1, 1) := by decide +kernel
theorem dL_law_1144 : decode cL_law 1144 = .ok (.iadd, 1) := by decide +kernel
theorem dL_law_1145 : decode cL_law 1145 = .ok (.iaload, 1) := by decide +kernel
theorem dL_law_1146 : decode cL_law 1146 = .ok (.aload_n 0, 1) := by decide +kernel
theorem dL_law_1147 : decode cL_law 1147 = .ok (.iload 4, 2) := by decide +kernel
theorem dL_law_1149 : decode cL_law 1149 = .ok (.iconst 2, 1) := by decide +kernel
theorem dL_law_1150 : decode cL_law 1150 = .ok (.iadd, 1) := by decide +kernel
theorem dL_law_1151 : decode cL_law 1151 = .ok (.iaload, 1) := by decide +kernel
theorem dL_law_1152 : decode cL_law 1152 = .ok (.aload_n 0, 1) := by decide +kernel
theorem dL_law_1153 : decode cL_law 1153 = .ok (.iload 4, 2) := by decide +kernel
theorem dL_law_1155 : decode cL_law 1155 = .ok (.iconst 3, 1) := by decide +kernel
theorem dL_law_1156 : decode cL_law 1156 = .ok (.iadd, 1) := by decide +kernel
theorem dL_law_1157 : decode cL_law 1157 = .ok (.iaload, 1) := by decide +kernel
theorem dL_law_1158 : decode cL_law 1158 = .ok (.aload_n 0, 1) := by decide +kernel
theorem dL_law_1159 : decode cL_law 1159 = .ok (.iload 4, 2) := by decide +kernel
theorem dL_law_1161 : decode cL_law 1161 = .ok (.iconst 4, 1) := by decide +kernel
theorem dL_law_1162 : decode cL_law 1162 = .ok (.iadd, 1) := by decide +kernel
theorem dL_law_1163 : decode cL_law 1163 = .ok (.iaload, 1) := by decide +kernel
theorem dL_law_1164 : decode cL_law 1164 = .ok (.aload_n 0, 1) := by decide +kernel
theorem dL_law_1165 : decode cL_law 1165 = .ok (.iload 4, 2) := by decide +kernel
theorem dL_law_1167 : decode cL_law 1167 = .ok (.iconst 5, 1) := by decide +kernel
theorem dL_law_1168 : decode cL_law 1168 = .ok (.iadd, 1) := by decide +kernel
theorem dL_law_1169 : decode cL_law 1169 = .ok (.iaload, 1) := by decide +kernel
theorem dL_law_1170 : decode cL_law 1170 = .ok (.invokevirtual 134, 3) := by decide +kernel
theorem dL_law_1173 : decode cL_law 1173 = .ok (.istore 6, 2) := by decide +kernel
theorem dL_law_1175 : decode cL_law 1175 = .ok (.aload_n 2, 1) := by decide +kernel
theorem dL_law_1176 : decode cL_law 1176 = .ok (.invokevirtual 87, 3) := by decide +kernel
theorem dL_law_1179 : decode cL_law 1179 = .ok (.iload 5, 2) := by decide +kernel
theorem dL_law_1181 : decode cL_law 1181 = .ok (.if_icmp .eq 5, 3) := by decide +kernel
theorem dL_law_1184 : decode cL_law 1184 = .ok (.iconst 0, 1) := by decide +kernel
theorem dL_law_1185 : decode cL_law 1185 = .ok (.ireturn, 1) := by decide +kernel
theorem dL_law_1186 : decode cL_law 1186 = .ok (.iload 5, 2) := by decide +kernel
theorem dL_law_1188 : decode cL_law 1188 = .ok (.ifCond .ne 15, 3) := by decide +kernel
theorem dL_law_1191 : decode cL_law 1191 = .ok (.aload_n 3, 1) := by decide +kernel
theorem dL_law_1192 : decode cL_law 1192 = .ok (.iconst 0, 1) := by decide +kernel
theorem dL_law_1193 : decode cL_law 1193 = .ok (.laload, 1) := by decide +kernel
theorem dL_law_1194 : decode cL_law 1194 = .ok (.iload 6, 2) := by decide +kernel
theorem dL_law_1196 : decode cL_law 1196 = .ok (.i2l, 1) := by decide +kernel
theorem dL_law_1197 : decode cL_law 1197 = .ok (.lcmp, 1) := by decide +kernel
theorem dL_law_1198 : decode cL_law 1198 = .ok (.ifCond .eq 5, 3) := by decide +kernel
theorem dL_law_1201 : decode cL_law 1201 = .ok (.iconst 0, 1) := by decide +kernel
theorem dL_law_1202 : decode cL_law 1202 = .ok (.ireturn, 1) := by decide +kernel
theorem dL_law_1203 : decode cL_law 1203 = .ok (.goto 313, 3) := by decide +kernel
theorem dL_law_1206 : decode cL_law 1206 = .ok (.aload_n 1, 1) := by decide +kernel
theorem dL_law_1207 : decode cL_law 1207 = .ok (.aload_n 0, 1) := by decide +kernel
theorem dL_law_1208 : decode cL_law 1208 = .ok (.iload 4, 2) := by decide +kernel
theorem dL_law_1210 : decode cL_law 1210 = .ok (.iconst 1, 1) := by decide +kernel
theorem dL_law_1211 : decode cL_law 1211 = .ok (.iadd, 1) := by decide +kernel
theorem dL_law_1212 : decode cL_law 1212 = .ok (.iaload, 1) := by decide +kernel
theorem dL_law_1213 : decode cL_law 1213 = .ok (.aload_n 0, 1) := by decide +kernel
theorem dL_law_1214 : decode cL_law 1214 = .ok (.iload 4, 2) := by decide +kernel
theorem dL_law_1216 : decode cL_law 1216 = .ok (.iconst 2, 1) := by decide +kernel
theorem dL_law_1217 : decode cL_law 1217 = .ok (.iadd, 1) := by decide +kernel
theorem dL_law_1218 : decode cL_law 1218 = .ok (.iaload, 1) := by decide +kernel
theorem dL_law_1219 : decode cL_law 1219 = .ok (.aload_n 0, 1) := by decide +kernel
theorem dL_law_1220 : decode cL_law 1220 = .ok (.iload 4, 2) := by decide +kernel
theorem dL_law_1222 : decode cL_law 1222 = .ok (.iconst 3, 1) := by decide +kernel
theorem dL_law_1223 : decode cL_law 1223 = .ok (.iadd, 1) := by decide +kernel
theorem dL_law_1224 : decode cL_law 1224 = .ok (.iaload, 1) := by decide +kernel
theorem dL_law_1225 : decode cL_law 1225 = .ok (.aload_n 3, 1) := by decide +kernel
theorem dL_law_1226 : decode cL_law 1226 = .ok (.invokestatic 135, 3) := by decide +kernel
theorem dL_law_1229 : decode cL_law 1229 = .ok (.istore 5, 2) := by decide +kernel
theorem dL_law_1231 : decode cL_law 1231 = .ok (.aload_n 2, 1) := by decide +kernel
theorem dL_law_1232 : decode cL_law 1232 = .ok (.aload_n 0, 1) := by decide +kernel
theorem dL_law_1233 : decode cL_law 1233 = .ok (.iload 4, 2) := by decide +kernel
theorem dL_law_1235 : decode cL_law 1235 = .ok (.iconst 1, 1) := by decide +kernel
theorem dL_law_1236 : decode cL_law 1236 = .ok (.iadd, 1) := by decide +kernel
theorem dL_law_1237 : decode cL_law 1237 = .ok (.iaload, 1) := by decide +kernel
theorem dL_law_1238 : decode cL_law 1238 = .ok (.aload_n 0, 1) := by decide +kernel
theorem dL_law_1239 : decode cL_law 1239 = .ok (.iload 4, 2) := by decide +kernel
theorem dL_law_1241 : decode cL_law 1241 = .ok (.iconst 2, 1) := by decide +kernel
theorem dL_law_1242 : decode cL_law 1242 = .ok (.iadd, 1) := by decide +kernel
theorem dL_law_1243 : decode cL_law 1243 = .ok (.iaload, 1) := by decide +kernel
theorem dL_law_1244 : decode cL_law 1244 = .ok (.aload_n 0, 1) := by decide +kernel
theorem dL_law_1245 : decode cL_law 1245 = .ok (.iload 4, 2) := by decide +kernel
theorem dL_law_1247 : decode cL_law 1247 = .ok (.iconst 3, 1) := by decide +kernel
theorem dL_law_1248 : decode cL_law 1248 = .ok (.iadd, 1) := by decide +kernel
theorem dL_law_1249 : decode cL_law 1249 = .ok (.iaload, 1) := by decide +kernel
theorem dL_law_1250 : decode cL_law 1250 = .ok (.invokevirtual 137, 3) := by decide +kernel
theorem dL_law_1253 : decode cL_law 1253 = .ok (.istore 6, 2) := by decide +kernel
theorem dL_law_1255 : decode cL_law 1255 = .ok (.aload_n 2, 1) := by decide +kernel
theorem dL_law_1256 : decode cL_law 1256 = .ok (.invokevirtual 87, 3) := by decide +kernel
theorem dL_law_1259 : decode cL_law 1259 = .ok (.iload 5, 2) := by decide +kernel
theorem dL_law_1261 : decode cL_law 1261 = .ok (.if_icmp .eq 5, 3) := by decide +kernel
theorem dL_law_1264 : decode cL_law 1264 = .ok (.iconst 0, 1) := by decide +kernel
theorem dL_law_1265 : decode cL_law 1265 = .ok (.ireturn, 1) := by decide +kernel
theorem dL_law_1266 : decode cL_law 1266 = .ok (.iload 5, 2) := by decide +kernel
theorem dL_law_1268 : decode cL_law 1268 = .ok (.ifCond .ne 15, 3) := by decide +kernel
theorem dL_law_1271 : decode cL_law 1271 = .ok (.aload_n 3, 1) := by decide +kernel
theorem dL_law_1272 : decode cL_law 1272 = .ok (.iconst 0, 1) := by decide +kernel
theorem dL_law_1273 : decode cL_law 1273 = .ok (.laload, 1) := by decide +kernel
theorem dL_law_1274 : decode cL_law 1274 = .ok (.iload 6, 2) := by decide +kernel
theorem dL_law_1276 : decode cL_law 1276 = .ok (.i2l, 1) := by decide +kernel
theorem dL_law_1277 : decode cL_law 1277 = .ok (.lcmp, 1) := by decide +kernel
theorem dL_law_1278 : decode cL_law 1278 = .ok (.ifCond .eq 5, 3) := by decide +kernel
theorem dL_law_1281 : decode cL_law 1281 = .ok (.iconst 0, 1) := by decide +kernel
theorem dL_law_1282 : decode cL_law 1282 = .ok (.ireturn, 1) := by decide +kernel
theorem dL_law_1283 : decode cL_law 1283 = .ok (.goto 233, 3) := by decide +kernel
theorem dL_law_1286 : decode cL_law 1286 = .ok (.aload_n 1, 1) := by decide +kernel
theorem dL_law_1287 : decode cL_law 1287 = .ok (.aload_n 0, 1) := by decide +kernel
theorem dL_law_1288 : decode cL_law 1288 = .ok (.iload 4, 2) := by decide +kernel
theorem dL_law_1290 : decode cL_law 1290 = .ok (.iconst 1, 1) := by decide +kernel
theorem dL_law_1291 : decode cL_law 1291 = .ok (.iadd, 1) := by decide +kernel
theorem dL_law_1292 : decode cL_law 1292 = .ok (.iaload, 1) := by decide +kernel
theorem dL_law_1293 : decode cL_law 1293 = .ok (.aload_n 0, 1) := by decide +kernel
theorem dL_law_1294 : decode cL_law 1294 = .ok (.iload 4, 2) := by decide +kernel
theorem dL_law_1296 : decode cL_law 1296 = .ok (.iconst 2, 1) := by decide +kernel
theorem dL_law_1297 : decode cL_law 1297 = .ok (.iadd, 1) := by decide +kernel
theorem dL_law_1298 : decode cL_law 1298 = .ok (.iaload, 1) := by decide +kernel
theorem dL_law_1299 : decode cL_law 1299 = .ok (.aload_n 3, 1) := by decide +kernel
theorem dL_law_1300 : decode cL_law 1300 = .ok (.invokestatic 138, 3) := by decide +kernel
theorem dL_law_1303 : decode cL_law 1303 = .ok (.istore 5, 2) := by decide +kernel
theorem dL_law_1305 : decode cL_law 1305 = .ok (.aload_n 2, 1) := by decide +kernel
theorem dL_law_1306 : decode cL_law 1306 = .ok (.aload_n 0, 1) := by decide +kernel
theorem dL_law_1307 : decode cL_law 1307 = .ok (.iload 4, 2) := by decide +kernel
theorem dL_law_1309 : decode cL_law 1309 = .ok (.iconst 1, 1) := by decide +kernel
theorem dL_law_1310 : decode cL_law 1310 = .ok (.iadd, 1) := by decide +kernel
theorem dL_law_1311 : decode cL_law 1311 = .ok (.iaload, 1) := by decide +kernel
theorem dL_law_1312 : decode cL_law 1312 = .ok (.aload_n 0, 1) := by decide +kernel
theorem dL_law_1313 : decode cL_law 1313 = .ok (.iload 4, 2) := by decide +kernel
theorem dL_law_1315 : decode cL_law 1315 = .ok (.iconst 2, 1) := by decide +kernel
theorem dL_law_1316 : decode cL_law 1316 = .ok (.iadd, 1) := by decide +kernel
theorem dL_law_1317 : decode cL_law 1317 = .ok (.iaload, 1) := by decide +kernel
theorem dL_law_1318 : decode cL_law 1318 = .ok (.invokevirtual 140, 3) := by decide +kernel
theorem dL_law_1321 : decode cL_law 1321 = .ok (.istore 6, 2) := by decide +kernel
theorem dL_law_1323 : decode cL_law 1323 = .ok (.aload_n 2, 1) := by decide +kernel
theorem dL_law_1324 : decode cL_law 1324 = .ok (.invokevirtual 87, 3) := by decide +kernel
theorem dL_law_1327 : decode cL_law 1327 = .ok (.iload 5, 2) := by decide +kernel
theorem dL_law_1329 : decode cL_law 1329 = .ok (.if_icmp .eq 5, 3) := by decide +kernel
theorem dL_law_1332 : decode cL_law 1332 = .ok (.iconst 0, 1) := by decide +kernel
theorem dL_law_1333 : decode cL_law 1333 = .ok (.ireturn, 1) := by decide +kernel
theorem dL_law_1334 : decode cL_law 1334 = .ok (.iload 5, 2) := by decide +kernel
theorem dL_law_1336 : decode cL_law 1336 = .ok (.ifCond .ne 15, 3) := by decide +kernel
theorem dL_law_1339 : decode cL_law 1339 = .ok (.aload_n 3, 1) := by decide +kernel
theorem dL_law_1340 : decode cL_law 1340 = .ok (.iconst 0, 1) := by decide +kernel
theorem dL_law_1341 : decode cL_law 1341 = .ok (.laload, 1) := by decide +kernel
theorem dL_law_1342 : decode cL_law 1342 = .ok (.iload 6, 2) := by decide +kernel
theorem dL_law_1344 : decode cL_law 1344 = .ok (.i2l, 1) := by decide +kernel
theorem dL_law_1345 : decode cL_law 1345 = .ok (.lcmp, 1) := by decide +kernel
theorem dL_law_1346 : decode cL_law 1346 = .ok (.ifCond .eq 5, 3) := by decide +kernel
theorem dL_law_1349 : decode cL_law 1349 = .ok (.iconst 0, 1) := by decide +kernel
theorem dL_law_1350 : decode cL_law 1350 = .ok (.ireturn, 1) := by decide +kernel
theorem dL_law_1351 : decode cL_law 1351 = .ok (.goto 165, 3) := by decide +kernel
theorem dL_law_1354 : decode cL_law 1354 = .ok (.aload_n 1, 1) := by decide +kernel
theorem dL_law_1355 : decode cL_law 1355 = .ok (.aload_n 0, 1) := by decide +kernel
theorem dL_law_1356 : decode cL_law 1356 = .ok (.iload 4, 2) := by decide +kernel
theorem dL_law_1358 : decode cL_law 1358 = .ok (.iconst 1, 1) := by decide +kernel
theorem dL_law_1359 : decode cL_law 1359 = .ok (.iadd, 1) := by decide +kernel
theorem dL_law_1360 : decode cL_law 1360 = .ok (.iaload, 1) := by decide +kernel
theorem dL_law_1361 : decode cL_law 1361 = .ok (.aload_n 0, 1) := by decide +kernel
theorem dL_law_1362 : decode cL_law 1362 = .ok (.iload 4, 2) := by decide +kernel
theorem dL_law_1364 : decode cL_law 1364 = .ok (.iconst 2, 1) := by decide +kernel
theorem dL_law_1365 : decode cL_law 1365 = .ok (.iadd, 1) := by decide +kernel
theorem dL_law_1366 : decode cL_law 1366 = .ok (.iaload, 1) := by decide +kernel
theorem dL_law_1367 : decode cL_law 1367 = .ok (.aload_n 3, 1) := by decide +kernel
theorem dL_law_1368 : decode cL_law 1368 = .ok (.invokestatic 141, 3) := by decide +kernel
theorem dL_law_1371 : decode cL_law 1371 = .ok (.istore 5, 2) := by decide +kernel
theorem dL_law_1373 : decode cL_law 1373 = .ok (.aload_n 2, 1) := by decide +kernel
theorem dL_law_1374 : decode cL_law 1374 = .ok (.aload_n 0, 1) := by decide +kernel
theorem dL_law_1375 : decode cL_law 1375 = .ok (.iload 4, 2) := by decide +kernel
theorem dL_law_1377 : decode cL_law 1377 = .ok (.iconst 1, 1) := by decide +kernel
theorem dL_law_1378 : decode cL_law 1378 = .ok (.iadd, 1) := by decide +kernel
theorem dL_law_1379 : decode cL_law 1379 = .ok (.iaload, 1) := by decide +kernel
theorem dL_law_1380 : decode cL_law 1380 = .ok (.aload_n 0, 1) := by decide +kernel
theorem dL_law_1381 : decode cL_law 1381 = .ok (.iload 4, 2) := by decide +kernel
theorem dL_law_1383 : decode cL_law 1383 = .ok (.iconst 2, 1) := by decide +kernel
theorem dL_law_1384 : decode cL_law 1384 = .ok (.iadd, 1) := by decide +kernel
theorem dL_law_1385 : decode cL_law 1385 = .ok (.iaload, 1) := by decide +kernel
theorem dL_law_1386 : decode cL_law 1386 = .ok (.invokevirtual 143, 3) := by decide +kernel
theorem dL_law_1389 : decode cL_law 1389 = .ok (.istore 6, 2) := by decide +kernel
theorem dL_law_1391 : decode cL_law 1391 = .ok (.aload_n 2, 1) := by decide +kernel
theorem dL_law_1392 : decode cL_law 1392 = .ok (.invokevirtual 87, 3) := by decide +kernel
theorem dL_law_1395 : decode cL_law 1395 = .ok (.iload 5, 2) := by decide +kernel
theorem dL_law_1397 : decode cL_law 1397 = .ok (.if_icmp .eq 5, 3) := by decide +kernel
theorem dL_law_1400 : decode cL_law 1400 = .ok (.iconst 0, 1) := by decide +kernel
theorem dL_law_1401 : decode cL_law 1401 = .ok (.ireturn, 1) := by decide +kernel
theorem dL_law_1402 : decode cL_law 1402 = .ok (.iload 5, 2) := by decide +kernel
theorem dL_law_1404 : decode cL_law 1404 = .ok (.ifCond .ne 15, 3) := by decide +kernel
theorem dL_law_1407 : decode cL_law 1407 = .ok (.aload_n 3, 1) := by decide +kernel
theorem dL_law_1408 : decode cL_law 1408 = .ok (.iconst 0, 1) := by decide +kernel
theorem dL_law_1409 : decode cL_law 1409 = .ok (.laload, 1) := by decide +kernel
theorem dL_law_1410 : decode cL_law 1410 = .ok (.iload 6, 2) := by decide +kernel
theorem dL_law_1412 : decode cL_law 1412 = .ok (.i2l, 1) := by decide +kernel
theorem dL_law_1413 : decode cL_law 1413 = .ok (.lcmp, 1) := by decide +kernel
theorem dL_law_1414 : decode cL_law 1414 = .ok (.ifCond .eq 5, 3) := by decide +kernel
theorem dL_law_1417 : decode cL_law 1417 = .ok (.iconst 0, 1) := by decide +kernel
theorem dL_law_1418 : decode cL_law 1418 = .ok (.ireturn, 1) := by decide +kernel
theorem dL_law_1419 : decode cL_law 1419 = .ok (.goto 97, 3) := by decide +kernel
theorem dL_law_1422 : decode cL_law 1422 = .ok (.aload_n 1, 1) := by decide +kernel
theorem dL_law_1423 : decode cL_law 1423 = .ok (.aload_n 0, 1) := by decide +kernel
theorem dL_law_1424 : decode cL_law 1424 = .ok (.iload 4, 2) := by decide +kernel
theorem dL_law_1426 : decode cL_law 1426 = .ok (.iconst 1, 1) := by decide +kernel
theorem dL_law_1427 : decode cL_law 1427 = .ok (.iadd, 1) := by decide +kernel
theorem dL_law_1428 : decode cL_law 1428 = .ok (.iaload, 1) := by decide +kernel
theorem dL_law_1429 : decode cL_law 1429 = .ok (.aload_n 0, 1) := by decide +kernel
theorem dL_law_1430 : decode cL_law 1430 = .ok (.iload 4, 2) := by decide +kernel
theorem dL_law_1432 : decode cL_law 1432 = .ok (.iconst 2, 1) := by decide +kernel
theorem dL_law_1433 : decode cL_law 1433 = .ok (.iadd, 1) := by decide +kernel
theorem dL_law_1434 : decode cL_law 1434 = .ok (.iaload, 1) := by decide +kernel
theorem dL_law_1435 : decode cL_law 1435 = .ok (.aload_n 3, 1) := by decide +kernel
theorem dL_law_1436 : decode cL_law 1436 = .ok (.invokestatic 144, 3) := by decide +kernel
theorem dL_law_1439 : decode cL_law 1439 = .ok (.istore 5, 2) := by decide +kernel
theorem dL_law_1441 : decode cL_law 1441 = .ok (.aload_n 2, 1) := by decide +kernel
theorem dL_law_1442 : decode cL_law 1442 = .ok (.aload_n 0, 1) := by decide +kernel
theorem dL_law_1443 : decode cL_law 1443 = .ok (.iload 4, 2) := by decide +kernel
theorem dL_law_1445 : decode cL_law 1445 = .ok (.iconst 1, 1) := by decide +kernel
theorem dL_law_1446 : decode cL_law 1446 = .ok (.iadd, 1) := by decide +kernel
theorem dL_law_1447 : decode cL_law 1447 = .ok (.iaload, 1) := by decide +kernel
theorem dL_law_1448 : decode cL_law 1448 = .ok (.aload_n 0, 1) := by decide +kernel
theorem dL_law_1449 : decode cL_law 1449 = .ok (.iload 4, 2) := by decide +kernel
theorem dL_law_1451 : decode cL_law 1451 = .ok (.iconst 2, 1) := by decide +kernel
theorem dL_law_1452 : decode cL_law 1452 = .ok (.iadd, 1) := by decide +kernel
theorem dL_law_1453 : decode cL_law 1453 = .ok (.iaload, 1) := by decide +kernel
theorem dL_law_1454 : decode cL_law 1454 = .ok (.invokevirtual 146, 3) := by decide +kernel
theorem dL_law_1457 : decode cL_law 1457 = .ok (.istore 6, 2) := by decide +kernel
theorem dL_law_1459 : decode cL_law 1459 = .ok (.aload_n 2, 1) := by decide +kernel
theorem dL_law_1460 : decode cL_law 1460 = .ok (.invokevirtual 87, 3) := by decide +kernel
theorem dL_law_1463 : decode cL_law 1463 = .ok (.iload 5, 2) := by decide +kernel
theorem dL_law_1465 : decode cL_law 1465 = .ok (.if_icmp .eq 5, 3) := by decide +kernel
theorem dL_law_1468 : decode cL_law 1468 = .ok (.iconst 0, 1) := by decide +kernel
theorem dL_law_1469 : decode cL_law 1469 = .ok (.ireturn, 1) := by decide +kernel
theorem dL_law_1470 : decode cL_law 1470 = .ok (.iload 5, 2) := by decide +kernel
theorem dL_law_1472 : decode cL_law 1472 = .ok (.ifCond .ne 15, 3) := by decide +kernel
theorem dL_law_1475 : decode cL_law 1475 = .ok (.aload_n 3, 1) := by decide +kernel
theorem dL_law_1476 : decode cL_law 1476 = .ok (.iconst 0, 1) := by decide +kernel
theorem dL_law_1477 : decode cL_law 1477 = .ok (.laload, 1) := by decide +kernel
theorem dL_law_1478 : decode cL_law 1478 = .ok (.iload 6, 2) := by decide +kernel
theorem dL_law_1480 : decode cL_law 1480 = .ok (.i2l, 1) := by decide +kernel
theorem dL_law_1481 : decode cL_law 1481 = .ok (.lcmp, 1) := by decide +kernel
theorem dL_law_1482 : decode cL_law 1482 = .ok (.ifCond .eq 5, 3) := by decide +kernel
theorem dL_law_1485 : decode cL_law 1485 = .ok (.iconst 0, 1) := by decide +kernel
theorem dL_law_1486 : decode cL_law 1486 = .ok (.ireturn, 1) := by decide +kernel
theorem dL_law_1487 : decode cL_law 1487 = .ok (.goto 29, 3) := by decide +kernel
theorem dL_law_1490 : decode cL_law 1490 = .ok (.aload_n 1, 1) := by decide +kernel
theorem dL_law_1491 : decode cL_law 1491 = .ok (.invokevirtual 147, 3) := by decide +kernel
theorem dL_law_1494 : decode cL_law 1494 = .ok (.aload_n 2, 1) := by decide +kernel
theorem dL_law_1495 : decode cL_law 1495 = .ok (.invokevirtual 150, 3) := by decide +kernel
theorem dL_law_1498 : decode cL_law 1498 = .ok (.if_icmp .eq 18, 3) := by decide +kernel
theorem dL_law_1501 : decode cL_law 1501 = .ok (.iconst 0, 1) := by decide +kernel
theorem dL_law_1502 : decode cL_law 1502 = .ok (.ireturn, 1) := by decide +kernel
theorem dL_law_1503 : decode cL_law 1503 = .ok (.aload_n 1, 1) := by decide +kernel
theorem dL_law_1504 : decode cL_law 1504 = .ok (.invokevirtual 151, 3) := by decide +kernel
theorem dL_law_1507 : decode cL_law 1507 = .ok (.aload_n 2, 1) := by decide +kernel
theorem dL_law_1508 : decode cL_law 1508 = .ok (.invokevirtual 154, 3) := by decide +kernel
theorem dL_law_1511 : decode cL_law 1511 = .ok (.if_icmp .eq 5, 3) := by decide +kernel
theorem dL_law_1514 : decode cL_law 1514 = .ok (.iconst 0, 1) := by decide +kernel
theorem dL_law_1515 : decode cL_law 1515 = .ok (.ireturn, 1) := by decide +kernel
theorem dL_law_1516 : decode cL_law 1516 = .ok (.iinc 4 6, 3) := by decide +kernel
theorem dL_law_1519 : decode cL_law 1519 = .ok (.goto (-1496), 3) := by decide +kernel
theorem dL_law_1522 : decode cL_law 1522 = .ok (.iconst 1, 1) := by decide +kernel
theorem dL_law_1523 : decode cL_law 1523 = .ok (.ireturn, 1) := by decide +kernel
end
section
section WBase
abbrev wI : Type := Nat → Nat → Nat → Int32
abbrev wP : Type := Nat → Nat → Nat → Option Nat
abbrev wO : Type := Nat → Int64
/-- where things lie: numbers and slots of the kinds, the rows' kinds, the addresses -/
abbrev wG : Type := va_G × (Nat → ClassId) × (Nat → Nat → Nat)
abbrev wZ : Type := Nat × Nat
def wTy (g : wG) : List (ClassId × FieldType) := [(g.2.1 0, .int), (g.2.1 1, .boolean), (g.2.1 2, .object RX2), (g.2.1 3, .object RX0), (g.2.1 4, .object RX1), (g.2.1 5, .long)]
def wML (i : Nat) : Nat := [0, 0, 4, 4, 6, 0, 12, 12, 12, 12, 12, 12, 12, 0, 24, 24, 24, 24, 24, 24, 24, 96, 4016, 4016].getD i 0
def wAl (z : wZ) (k i : Nat) : Prop := match k with
  | 0 => i = 0
  | 1 => i < 4
  | 2 => i < z.1
  | 3 => i < z.2
  | 4 => i = 0
  | 5 => i = 0
  | 6 => i = 0
  | 7 => i = 0
  | 8 => i < 4
  | 9 => i < 4
  | 10 => i < 4
  | 11 => i < z.2
  | 12 => i = 0
  | 13 => 0 < wML i
  | 14 => i = 0
  | _ => False
def wE (g : wG) (f : Nat → Int32) (q : Nat → Option Nat) (O : wO) (k i : Nat) : va_E := match k with
  | 0 => .inr (3, [.ref (g.2.2 4 0), .ref (g.2.2 5 0), .ref (g.2.2 6 0), .ref (g.2.2 7 0), .int (f 4), .int (f 5), .int (f 6)])
  | 1 => .inr (1, [.int (f 0), .int (f 1), .ref (g.2.2 8 i), .ref (g.2.2 9 i), .ref (g.2.2 10 i)])
  | 2 => .inr (2, [.int (f 0), .int (f 1), .int (f 2), .int (f 3), .int (f 4), .int (f 5), .int (f 6), .int (f 7)])
  | 3 => .inr (0, [.int (f 0), va_rf ((q 1).map (g.2.2 2)), .int (f 2), .ref (g.2.2 11 i), .int (f 4), .int (f 5), .int (f 6), .int (f 7), .int (f 8), .int (f 9)])
  | 4 => .inl (g.2.1 4, 4, .inr (.inr (.inr (.inr (fun j => (q j).map (g.2.2 1))))))
  | 5 => .inl (g.2.1 1, 6, .inl f)
  | 6 => .inl (g.2.1 2, 12, .inr (.inr (.inr (.inr (fun j => (q j).map (g.2.2 2))))))
  | 7 => .inl (g.2.1 3, 24, .inr (.inr (.inr (.inr (fun j => (q j).map (g.2.2 3))))))
  | 8 => .inl (g.2.1 0, 16, .inl f)
  | 9 => .inl (g.2.1 2, 16, .inr (.inr (.inr (.inr (fun j => (q j).map (g.2.2 2))))))
  | 10 => .inl (g.2.1 0, 16, .inl f)
  | 11 => .inl (g.2.1 0, 4, .inl f)
  | 12 => .inr (4, [.int (f 0), .int (f 1), .ref (g.2.2 13 2), .ref (g.2.2 13 3), .ref (g.2.2 13 4), .int (f 5), .ref (g.2.2 13 6), .ref (g.2.2 13 7), .ref (g.2.2 13 8), .ref (g.2.2 13 9), .ref (g.2.2 13 10), .ref (g.2.2 13 11), .ref (g.2.2 13 12), .int (f 13), .ref (g.2.2 13 14), .ref (g.2.2 13 15), .ref (g.2.2 13 16), .ref (g.2.2 13 17), .ref (g.2.2 13 18), .ref (g.2.2 13 19), .ref (g.2.2 13 20), .ref (g.2.2 13 21), .ref (g.2.2 13 22), .ref (g.2.2 13 23)])
  | 13 => .inl (if i = 4 then g.2.1 1 else g.2.1 0, wML i, .inl f)
  | _ => .inl (g.2.1 5, 1, .inr (.inl O))
def wHd (g : wG) (z : wZ) (I : wI) (P : wP) (O : wO) (H : Heap) : Prop := (∀ k i, wAl z k i → va_at g.1 vwCl (g.2.2 k i, wE g (I k i) (P k i) O k i) H) ∧ ∀ k i k' i', wAl z k i → wAl z k' i' → g.2.2 k i = g.2.2 k' i' → k = k' ∧ i = i'
def wA (g : wG) (z : wZ) (q : Nat) : Prop := ∃ k i, wAl z k i ∧ q = g.2.2 k i
def upI (I : wI) (a b j : Nat) (v : Int32) : wI := fun k i => if k = a ∧ i = b then upd (I k i) j v else I k i
def upP (P : wP) (a b j : Nat) (v : Option Nat) : wP := fun k i => if k = a ∧ i = b then va_up (P k i) j v else P k i
theorem upI_at (I : wI) (a b j : Nat) (v : Int32) (k i c : Nat) : upI I a b j v k i c = if k = a ∧ i = b ∧ c = j then v else I k i c := by
  unfold upI upd
  by_cases h1 : k = a ∧ i = b <;> by_cases h2 : c = j <;> simp [h1, h2] <;> (try (intro h3 h4; exact absurd ⟨h3, h4⟩ h1))
theorem upP_at (P : wP) (a b j : Nat) (v : Option Nat) (k i c : Nat) : upP P a b j v k i c = if k = a ∧ i = b ∧ c = j then v else P k i c := by
  unfold upP va_up
  by_cases h1 : k = a ∧ i = b <;> by_cases h2 : c = j <;> simp [h1, h2] <;> (try (intro h3 h4; exact absurd ⟨h3, h4⟩ h1))
theorem upI_row (I : wI) (a b j : Nat) (v : Int32) : upI I a b j v a b = upd (I a b) j v := by unfold upI; simp
theorem upP_row (P : wP) (a b j : Nat) (v : Option Nat) : upP P a b j v a b = va_up (P a b) j v := by unfold upP; simp
theorem upI_off (I : wI) {a b j k i : Nat} (v : Int32) (h : ¬ (k = a ∧ i = b)) : upI I a b j v k i = I k i := by unfold upI; simp [h]
theorem upP_off (P : wP) {a b j k i : Nat} (v : Option Nat) (h : ¬ (k = a ∧ i = b)) : upP P a b j v k i = P k i := by unfold upP; simp [h]
/-- what is written in one place leaves the others -/
theorem wHd.put {g : wG} {z : wZ} {I I' : wI} {P P' : wP} {O O' : wO} {H H1 : Heap} {a b : Nat} (h : wHd g z I P O H) (hab : wAl z a b) (hI : ∀ k i, ¬ (k = a ∧ i = b) → I' k i = I k i) (hP : ∀ k i, ¬ (k = a ∧ i = b) → P' k i = P k i) (hO : ∀ k i, wAl z k i → ¬ (k = a ∧ i = b) → wE g (I k i) (P k i) O' k i = wE g (I k i) (P k i) O k i)
    (he : va_at g.1 vwCl (g.2.2 a b, wE g (I' a b) (P' a b) O' a b) H1) (oq : ∀ q : Nat, q ≠ g.2.2 a b → H1[q]? = H[q]?) : wHd g z I' P' O' H1 := by
  refine ⟨fun k i hk => ?_, h.2⟩
  by_cases hq : k = a ∧ i = b
  · obtain ⟨rfl, rfl⟩ := hq
    exact he
  · rw [hI k i hq, hP k i hq, hO k i hk hq]
    exact (h.1 k i hk).kept (oq _ (fun e => hq (h.2 k i a b hk hab e)))
theorem wE_O {g : wG} {z : wZ} {f : Nat → Int32} {q : Nat → Option Nat} {O O' : wO} {k i : Nat} (hk : wAl z k i) (h : k ≠ 14) : wE g f q O' k i = wE g f q O k i := by
  match k, hk, h with
  | 0, _, _ | 1, _, _ | 2, _, _ | 3, _, _ | 4, _, _ | 5, _, _ | 6, _, _ | 7, _, _ | 8, _, _ | 9, _, _ | 10, _, _ | 11, _, _ | 12, _, _ | 13, _, _ => rfl
  | 14, _, h => exact absurd rfl h
  | _ + 15, hk, _ => exact hk.elim
abbrev wK : Type := Program × Launch × Env × Room × State × MethodId × Array Value × List Frame × Method × Code × (State → Prop) × wG × (Nat → Prop)
def lk : List (Nat × Value) → Nat → Option Value
  | [], _ => none
  | q :: t, i => bif Nat.beq q.1 i then some q.2 else lk t i
theorem lk_mem : ∀ {L : List (Nat × Value)} {i : Nat} {v : Value}, lk L i = some v → (i, v) ∈ L
  | [], _, _, h => by cases h
  | (j, u) :: t, i, v, h => by
    unfold lk at h
    cases hb : Nat.beq j i with
    | true =>
      rw [hb] at h
      have e : j = i := Nat.eq_of_beq_eq_true hb
      cases h
      subst e
      exact List.mem_cons_self
    | false =>
      rw [hb] at h
      exact List.mem_cons_of_mem _ (lk_mem h)
def st1 : List (Nat × Value) → Nat → Value → List (Nat × Value)
  | [], i, v => [(i, v)]
  | q :: t, i, v => bif Nat.beq q.1 i then (i, v) :: t.filter (fun q => !(Nat.beq q.1 i)) else q :: st1 t i v
theorem st1_sub : ∀ {L : List (Nat × Value)} {i : Nat} {v : Value} {q : Nat × Value}, q ∈ st1 L i v → q = (i, v) ∨ (q ∈ L ∧ q.1 ≠ i)
  | [], i, v, q, h => Or.inl (List.mem_singleton.mp h)
  | p :: t, i, v, q, h => by
    unfold st1 at h
    cases hb : Nat.beq p.1 i with
    | true =>
      rw [hb] at h
      rcases List.mem_cons.mp (show q ∈ (i, v) :: t.filter (fun q => !(Nat.beq q.1 i)) from h) with h1 | h1
      · exact Or.inl h1
      · obtain ⟨h2, h3⟩ := List.mem_filter.mp h1
        exact Or.inr ⟨List.mem_cons_of_mem _ h2, fun e => by rw [e, Nat.beq_refl] at h3; cases h3⟩
    | false =>
      rw [hb] at h
      rcases List.mem_cons.mp (show q ∈ p :: st1 t i v from h) with h1 | h1
      · refine Or.inr ⟨h1 ▸ List.mem_cons_self, fun e => ?_⟩
        rw [h1] at e
        rw [e, Nat.beq_refl] at hb
        cases hb
      · rcases st1_sub h1 with h2 | ⟨h2, h3⟩
        · exact Or.inl h2
        · exact Or.inr ⟨List.mem_cons_of_mem _ h2, h3⟩
theorem st1_has {ls : Array Slot} {n : Nat} {L : List (Nat × Value)} {i : Nat} {v : Value} (h : lv_has ls n ((i, v) :: L.filter (fun q => !(q.1 == i) && !(q.1 + 1 == i && q.2.category == 2)))) (c1 : ∀ q ∈ L, q.2.category = 1) : lv_has ls n (st1 L i v) := by
  refine ⟨h.1, h.2.1, fun q hq => ?_⟩
  rcases st1_sub hq with e | ⟨hm, hne⟩
  · rw [e]; exact h.2.2 _ List.mem_cons_self
  · exact h.2.2 q (List.mem_cons_of_mem _ (List.mem_filter.mpr ⟨hm, by simp [hne, c1 q hm]⟩))
theorem st1_cat {L : List (Nat × Value)} {i : Nat} {v : Value} (hv : v.category = 1) (c1 : ∀ q ∈ L, q.2.category = 1) : ∀ q ∈ st1 L i v, q.2.category = 1 := fun q hq => by
  rcases st1_sub hq with e | ⟨hm, _⟩
  · rw [e]; exact hv
  · exact c1 q hm
def G : wK → wZ → wI → wP → wO → Nat → Nat → Nat → List (Nat × Value) → List Value → Prop
  | (p, l, e, R, s, m, args, below, meth, cd, Q, g, A), z, I, P, O, c, n, pc, L, S => ∀ (H : Heap) (locs : List Loc) (ls : Array Slot), wHd g z I P O H → va_S A s.heap H locs → lv_has ls cd.maxLocals L → (∀ q ∈ L, q.2.category = 1) → W p l e R s m args below meth cd H locs c n Q (F0 m pc ls S)
def Cx : wK → ByteArray → String → Nat → Option FieldType → Room → wZ → Prop
  | (p, l, e, R, s, m, args, below, meth, cd, Q, g, A), cc, own, nL, ret, rm, z => p.tables.exec = Jvm.exec ∧ cd.code = cc ∧ meth.sig.returnType = ret ∧ cd.maxLocals = nL ∧ s.vm.findClass own = some m.cls ∧ (∀ w ∈ wAll, w.before args s = true) ∧ meth.locks = false ∧ va_K g.1 vwCl (wTy g) s ∧ R = rm ∧ ∀ k i, wAl z k i → A (g.2.2 k i)
abbrev Kg (K : wK) : wG := K.2.2.2.2.2.2.2.2.2.2.2.1
abbrev Kl (K : wK) : Launch := K.2.1
variable {K : wK} {cc : ByteArray} {own : String} {nL : Nat} {ret : Option FieldType} {rm : Room} {z : wZ} {I : wI} {P : wP} {O : wO} {c n pc pc' : Nat} {L : List (Nat × Value)} {S : List Value}

theorem g_iconst (C : Cx K cc own nL ret rm z) {k : Int} {v : Int32} (d : decode cc pc = .ok (.iconst k, 1)) (hv : Int32.ofInt k = v) (hp : pc + 1 = pc') (kk : G K z I P O c n pc' L (.int v :: S)) : G K z I P O c n pc L (S) := by
  subst hp
  obtain ⟨p, l, e, R, s, m, args, below, meth, cd, Q, g, A⟩ := K
  intro H locs ls hH hS hl hc
  exact lv_iconst C.1 C.2.1 d hv (kk H locs ls hH hS hl hc)

theorem g_bipush (C : Cx K cc own nL ret rm z) {k : Int} {v : Int32} (d : decode cc pc = .ok (.bipush k, 2)) (hv : (Int8.ofInt k).toInt32 = v) (hp : pc + 2 = pc') (kk : G K z I P O c n pc' L (.int v :: S)) : G K z I P O c n pc L (S) := by
  subst hp
  obtain ⟨p, l, e, R, s, m, args, below, meth, cd, Q, g, A⟩ := K
  intro H locs ls hH hS hl hc
  exact lv_bipush C.1 C.2.1 d hv (kk H locs ls hH hS hl hc)

theorem g_sipush (C : Cx K cc own nL ret rm z) {k : Int} {v : Int32} (d : decode cc pc = .ok (.sipush k, 3)) (hv : (Int16.ofInt k).toInt32 = v) (hp : pc + 3 = pc') (kk : G K z I P O c n pc' L (.int v :: S)) : G K z I P O c n pc L (S) := by
  subst hp
  obtain ⟨p, l, e, R, s, m, args, below, meth, cd, Q, g, A⟩ := K
  intro H locs ls hH hS hl hc
  exact lv_sipush C.1 C.2.1 d hv (kk H locs ls hH hS hl hc)

theorem g_null (C : Cx K cc own nL ret rm z) (d : decode cc pc = .ok (.aconst_null, 1)) (hp : pc + 1 = pc') (kk : G K z I P O c n pc' L (.null :: S)) : G K z I P O c n pc L (S) := by
  subst hp
  obtain ⟨p, l, e, R, s, m, args, below, meth, cd, Q, g, A⟩ := K
  intro H locs ls hH hS hl hc
  exact lv_null C.1 C.2.1 d (kk H locs ls hH hS hl hc)

theorem g_lconst (C : Cx K cc own nL ret rm z) {k : Fin 2} {v : Int64} (d : decode cc pc = .ok (.lconst k, 1)) (hv : Int64.ofNat (k : Nat) = v) (hp : pc + 1 = pc') (kk : G K z I P O c n pc' L (.long v :: S)) : G K z I P O c n pc L (S) := by
  subst hp
  obtain ⟨p, l, e, R, s, m, args, below, meth, cd, Q, g, A⟩ := K
  intro H locs ls hH hS hl hc
  exact lv_lconst C.1 C.2.1 d hv (kk H locs ls hH hS hl hc)

theorem g_iload_n (C : Cx K cc own nL ret rm z) {k : Fin 4} {x : Int32} (d : decode cc pc = .ok (.iload_n k, 1)) (hL : lk L k.val = some (.int x)) (hp : pc + 1 = pc') (kk : G K z I P O c n pc' L (.int x :: S)) : G K z I P O c n pc L (S) := by
  subst hp
  obtain ⟨p, l, e, R, s, m, args, below, meth, cd, Q, g, A⟩ := K
  intro H locs ls hH hS hl hc
  exact lv_iload_n C.1 C.2.1 d rfl (hl.2.2 _ (lk_mem hL)) (kk H locs ls hH hS hl hc)

theorem g_iload (C : Cx K cc own nL ret rm z) {i : Nat} {x : Int32} (d : decode cc pc = .ok (.iload i, 2)) (hL : lk L i = some (.int x)) (hp : pc + 2 = pc') (kk : G K z I P O c n pc' L (.int x :: S)) : G K z I P O c n pc L (S) := by
  subst hp
  obtain ⟨p, l, e, R, s, m, args, below, meth, cd, Q, g, A⟩ := K
  intro H locs ls hH hS hl hc
  exact lv_iload C.1 C.2.1 d (hl.2.2 _ (lk_mem hL)) (kk H locs ls hH hS hl hc)

theorem g_aload_n (C : Cx K cc own nL ret rm z) {k : Fin 4} {x : Nat} (d : decode cc pc = .ok (.aload_n k, 1)) (hL : lk L k.val = some (.ref x)) (hp : pc + 1 = pc') (kk : G K z I P O c n pc' L (.ref x :: S)) : G K z I P O c n pc L (S) := by
  subst hp
  obtain ⟨p, l, e, R, s, m, args, below, meth, cd, Q, g, A⟩ := K
  intro H locs ls hH hS hl hc
  exact lv_aload_n C.1 C.2.1 d rfl (hl.2.2 _ (lk_mem hL)) (kk H locs ls hH hS hl hc)

theorem g_aload (C : Cx K cc own nL ret rm z) {i x : Nat} (d : decode cc pc = .ok (.aload i, 2)) (hL : lk L i = some (.ref x)) (hp : pc + 2 = pc') (kk : G K z I P O c n pc' L (.ref x :: S)) : G K z I P O c n pc L (S) := by
  subst hp
  obtain ⟨p, l, e, R, s, m, args, below, meth, cd, Q, g, A⟩ := K
  intro H locs ls hH hS hl hc
  exact lv_aload C.1 C.2.1 d (hl.2.2 _ (lk_mem hL)) (kk H locs ls hH hS hl hc)

theorem g_aload_nN (C : Cx K cc own nL ret rm z) {k : Fin 4} (d : decode cc pc = .ok (.aload_n k, 1)) (hL : lk L k.val = some .null) (hp : pc + 1 = pc') (kk : G K z I P O c n pc' L (.null :: S)) : G K z I P O c n pc L (S) := by
  subst hp
  obtain ⟨p, l, e, R, s, m, args, below, meth, cd, Q, g, A⟩ := K
  intro H locs ls hH hS hl hc
  exact lv_aload_nN C.1 C.2.1 d rfl (hl.2.2 _ (lk_mem hL)) (kk H locs ls hH hS hl hc)

theorem g_aloadN (C : Cx K cc own nL ret rm z) {i : Nat} (d : decode cc pc = .ok (.aload i, 2)) (hL : lk L i = some .null) (hp : pc + 2 = pc') (kk : G K z I P O c n pc' L (.null :: S)) : G K z I P O c n pc L (S) := by
  subst hp
  obtain ⟨p, l, e, R, s, m, args, below, meth, cd, Q, g, A⟩ := K
  intro H locs ls hH hS hl hc
  exact lv_aloadN C.1 C.2.1 d (hl.2.2 _ (lk_mem hL)) (kk H locs ls hH hS hl hc)

theorem g_istore_n (C : Cx K cc own nL ret rm z) {k : Fin 4} {x : Int32} (d : decode cc pc = .ok (.istore_n k, 1)) (hn : Nat.blt k.val nL = true) (hp : pc + 1 = pc') (kk : G K z I P O c n pc' (st1 L k.val (.int x)) S) : G K z I P O c n pc L (.int x :: S) := by
  subst hp
  obtain ⟨p, l, e, R, s, m, args, below, meth, cd, Q, g, A⟩ := K
  intro H locs ls hH hS hl hc
  exact lv_istore_n C.1 C.2.1 d rfl hl (by rw [C.2.2.2.1]; exact Nat.le_of_ble_eq_true hn) rfl (fun ls' hl' => kk H locs ls' hH hS (st1_has hl' hc) (st1_cat rfl hc))

theorem g_istore (C : Cx K cc own nL ret rm z) {i : Nat} {x : Int32} (d : decode cc pc = .ok (.istore i, 2)) (hn : Nat.blt i nL = true) (hp : pc + 2 = pc') (kk : G K z I P O c n pc' (st1 L i (.int x)) S) : G K z I P O c n pc L (.int x :: S) := by
  subst hp
  obtain ⟨p, l, e, R, s, m, args, below, meth, cd, Q, g, A⟩ := K
  intro H locs ls hH hS hl hc
  exact lv_istore C.1 C.2.1 d hl (by rw [C.2.2.2.1]; exact Nat.le_of_ble_eq_true hn) rfl (fun ls' hl' => kk H locs ls' hH hS (st1_has hl' hc) (st1_cat rfl hc))

theorem g_astore_n (C : Cx K cc own nL ret rm z) {k : Fin 4} {x : Nat} (d : decode cc pc = .ok (.astore_n k, 1)) (hn : Nat.blt k.val nL = true) (hp : pc + 1 = pc') (kk : G K z I P O c n pc' (st1 L k.val (.ref x)) S) : G K z I P O c n pc L (.ref x :: S) := by
  subst hp
  obtain ⟨p, l, e, R, s, m, args, below, meth, cd, Q, g, A⟩ := K
  intro H locs ls hH hS hl hc
  exact lv_astore_n C.1 C.2.1 d rfl hl (by rw [C.2.2.2.1]; exact Nat.le_of_ble_eq_true hn) rfl (fun ls' hl' => kk H locs ls' hH hS (st1_has hl' hc) (st1_cat rfl hc))

theorem g_astore (C : Cx K cc own nL ret rm z) {i x : Nat} (d : decode cc pc = .ok (.astore i, 2)) (hn : Nat.blt i nL = true) (hp : pc + 2 = pc') (kk : G K z I P O c n pc' (st1 L i (.ref x)) S) : G K z I P O c n pc L (.ref x :: S) := by
  subst hp
  obtain ⟨p, l, e, R, s, m, args, below, meth, cd, Q, g, A⟩ := K
  intro H locs ls hH hS hl hc
  exact lv_astore C.1 C.2.1 d hl (by rw [C.2.2.2.1]; exact Nat.le_of_ble_eq_true hn) rfl (fun ls' hl' => kk H locs ls' hH hS (st1_has hl' hc) (st1_cat rfl hc))

theorem g_astore_nN (C : Cx K cc own nL ret rm z) {k : Fin 4} (d : decode cc pc = .ok (.astore_n k, 1)) (hn : Nat.blt k.val nL = true) (hp : pc + 1 = pc') (kk : G K z I P O c n pc' (st1 L k.val (.null)) S) : G K z I P O c n pc L (.null :: S) := by
  subst hp
  obtain ⟨p, l, e, R, s, m, args, below, meth, cd, Q, g, A⟩ := K
  intro H locs ls hH hS hl hc
  exact lv_astore_nN C.1 C.2.1 d rfl hl (by rw [C.2.2.2.1]; exact Nat.le_of_ble_eq_true hn) rfl (fun ls' hl' => kk H locs ls' hH hS (st1_has hl' hc) (st1_cat rfl hc))

theorem g_astoreN (C : Cx K cc own nL ret rm z) {i : Nat} (d : decode cc pc = .ok (.astore i, 2)) (hn : Nat.blt i nL = true) (hp : pc + 2 = pc') (kk : G K z I P O c n pc' (st1 L i (.null)) S) : G K z I P O c n pc L (.null :: S) := by
  subst hp
  obtain ⟨p, l, e, R, s, m, args, below, meth, cd, Q, g, A⟩ := K
  intro H locs ls hH hS hl hc
  exact lv_astoreN C.1 C.2.1 d hl (by rw [C.2.2.2.1]; exact Nat.le_of_ble_eq_true hn) rfl (fun ls' hl' => kk H locs ls' hH hS (st1_has hl' hc) (st1_cat rfl hc))

theorem g_iinc (C : Cx K cc own nL ret rm z) {i : Nat} {k : Int} {x v : Int32} (d : decode cc pc = .ok (.iinc i k, 3)) (hL : lk L i = some (.int x)) (hv : x + Int32.ofInt k = v) (hn : Nat.blt i nL = true) (hp : pc + 3 = pc') (kk : G K z I P O c n pc' (st1 L i (.int v)) S) : G K z I P O c n pc L S := by
  subst hp
  obtain ⟨p, l, e, R, s, m, args, below, meth, cd, Q, g, A⟩ := K
  intro H locs ls hH hS hl hc
  obtain ⟨j, hj⟩ := List.getElem?_of_mem (lk_mem hL)
  exact lv_iinc C.1 C.2.1 d hl hj hv (by rw [C.2.2.2.1]; exact Nat.le_of_ble_eq_true hn) rfl (fun ls' hl' => kk H locs ls' hH hS (st1_has hl' hc) (st1_cat rfl hc))

theorem g_iadd (C : Cx K cc own nL ret rm z) {x y : Int32} (d : decode cc pc = .ok (.iadd, 1)) (hp : pc + 1 = pc') (kk : G K z I P O c n pc' L (.int (x + y) :: S)) : G K z I P O c n pc L (.int y :: .int x :: S) := by
  subst hp
  obtain ⟨p, l, e, R, s, m, args, below, meth, cd, Q, g, A⟩ := K
  intro H locs ls hH hS hl hc
  exact lv_iadd C.1 C.2.1 d (kk H locs ls hH hS hl hc)

theorem g_isub (C : Cx K cc own nL ret rm z) {x y : Int32} (d : decode cc pc = .ok (.isub, 1)) (hp : pc + 1 = pc') (kk : G K z I P O c n pc' L (.int (x - y) :: S)) : G K z I P O c n pc L (.int y :: .int x :: S) := by
  subst hp
  obtain ⟨p, l, e, R, s, m, args, below, meth, cd, Q, g, A⟩ := K
  intro H locs ls hH hS hl hc
  exact lv_isub C.1 C.2.1 d (kk H locs ls hH hS hl hc)

theorem g_imul (C : Cx K cc own nL ret rm z) {x y : Int32} (d : decode cc pc = .ok (.imul, 1)) (hp : pc + 1 = pc') (kk : G K z I P O c n pc' L (.int (x * y) :: S)) : G K z I P O c n pc L (.int y :: .int x :: S) := by
  subst hp
  obtain ⟨p, l, e, R, s, m, args, below, meth, cd, Q, g, A⟩ := K
  intro H locs ls hH hS hl hc
  exact lv_imul C.1 C.2.1 d (kk H locs ls hH hS hl hc)

theorem g_iand (C : Cx K cc own nL ret rm z) {x y : Int32} (d : decode cc pc = .ok (.iand, 1)) (hp : pc + 1 = pc') (kk : G K z I P O c n pc' L (.int (x &&& y) :: S)) : G K z I P O c n pc L (.int y :: .int x :: S) := by
  subst hp
  obtain ⟨p, l, e, R, s, m, args, below, meth, cd, Q, g, A⟩ := K
  intro H locs ls hH hS hl hc
  exact lv_iand C.1 C.2.1 d (kk H locs ls hH hS hl hc)

theorem g_ior (C : Cx K cc own nL ret rm z) {x y : Int32} (d : decode cc pc = .ok (.ior, 1)) (hp : pc + 1 = pc') (kk : G K z I P O c n pc' L (.int (x ||| y) :: S)) : G K z I P O c n pc L (.int y :: .int x :: S) := by
  subst hp
  obtain ⟨p, l, e, R, s, m, args, below, meth, cd, Q, g, A⟩ := K
  intro H locs ls hH hS hl hc
  exact lv_ior C.1 C.2.1 d (kk H locs ls hH hS hl hc)

theorem g_ishr (C : Cx K cc own nL ret rm z) {x y : Int32} (d : decode cc pc = .ok (.ishr, 1)) (hp : pc + 1 = pc') (kk : G K z I P O c n pc' L (.int (x >>> (y &&& 31)) :: S)) : G K z I P O c n pc L (.int y :: .int x :: S) := by
  subst hp
  obtain ⟨p, l, e, R, s, m, args, below, meth, cd, Q, g, A⟩ := K
  intro H locs ls hH hS hl hc
  exact lv_ishr C.1 C.2.1 d (kk H locs ls hH hS hl hc)

theorem g_idiv (C : Cx K cc own nL ret rm z) {x y : Int32} (d : decode cc pc = .ok (.idiv, 1)) (hy : ¬ y = 0) (hp : pc + 1 = pc') (kk : G K z I P O c n pc' L (.int (x / y) :: S)) : G K z I P O c n pc L (.int y :: .int x :: S) := by
  subst hp
  obtain ⟨p, l, e, R, s, m, args, below, meth, cd, Q, g, A⟩ := K
  intro H locs ls hH hS hl hc
  exact lv_idiv C.1 C.2.1 d hy (kk H locs ls hH hS hl hc)

theorem g_i2l (C : Cx K cc own nL ret rm z) {x : Int32} (d : decode cc pc = .ok (.i2l, 1)) (hp : pc + 1 = pc') (kk : G K z I P O c n pc' L (.long x.toInt64 :: S)) : G K z I P O c n pc L (.int x :: S) := by
  subst hp
  obtain ⟨p, l, e, R, s, m, args, below, meth, cd, Q, g, A⟩ := K
  intro H locs ls hH hS hl hc
  exact lv_i2l C.1 C.2.1 d rfl (kk H locs ls hH hS hl hc)

theorem g_lcmp (C : Cx K cc own nL ret rm z) {x y : Int64} (d : decode cc pc = .ok (.lcmp, 1)) (hp : pc + 1 = pc') (kk : G K z I P O c n pc' L (.int (lg_cmp x y) :: S)) : G K z I P O c n pc L (.long y :: .long x :: S) := by
  subst hp
  obtain ⟨p, l, e, R, s, m, args, below, meth, cd, Q, g, A⟩ := K
  intro H locs ls hH hS hl hc
  exact W.lcmp C.1 C.2.1 d (kk H locs ls hH hS hl hc)

theorem g_dup (C : Cx K cc own nL ret rm z) {v : Value} (d : decode cc pc = .ok (.dup, 1)) (hv : v.category = 1) (hp : pc + 1 = pc') (kk : G K z I P O c n pc' L (v :: v :: S)) : G K z I P O c n pc L (v :: S) := by
  subst hp
  obtain ⟨p, l, e, R, s, m, args, below, meth, cd, Q, g, A⟩ := K
  intro H locs ls hH hS hl hc
  exact lv_dup C.1 C.2.1 d hv (kk H locs ls hH hS hl hc)

theorem g_dup2 (C : Cx K cc own nL ret rm z) {v u : Value} (d : decode cc pc = .ok (.dup2, 1)) (hv : v.category = 1) (hu : u.category = 1) (hp : pc + 1 = pc') (kk : G K z I P O c n pc' L (v :: u :: v :: u :: S)) : G K z I P O c n pc L (v :: u :: S) := by
  subst hp
  obtain ⟨p, l, e, R, s, m, args, below, meth, cd, Q, g, A⟩ := K
  intro H locs ls hH hS hl hc
  exact lv_dup2_11 C.1 C.2.1 d hv hu (kk H locs ls hH hS hl hc)

theorem g_if_eq (C : Cx K cc own nL ret rm z) {x : Int32} {off : Int} {tgt : Nat} (d : decode cc pc = .ok (.ifCond .eq off, 3)) (ht : (pc : Int) + off = (tgt : Int)) (hp : pc + 3 = pc') (kt : x = 0 → G K z I P O c n tgt L S) (kf : ¬ x = 0 → G K z I P O c n pc' L S) : G K z I P O c n pc L (.int x :: S) := by
  subst hp
  obtain ⟨p, l, e, R, s, m, args, below, meth, cd, Q, g, A⟩ := K
  intro H locs ls hH hS hl hc
  exact lv_if_eq C.1 C.2.1 d ht (fun h => kt h H locs ls hH hS hl hc) (fun h => kf h H locs ls hH hS hl hc)

theorem g_if_ne (C : Cx K cc own nL ret rm z) {x : Int32} {off : Int} {tgt : Nat} (d : decode cc pc = .ok (.ifCond .ne off, 3)) (ht : (pc : Int) + off = (tgt : Int)) (hp : pc + 3 = pc') (kt : ¬ x = 0 → G K z I P O c n tgt L S) (kf : x = 0 → G K z I P O c n pc' L S) : G K z I P O c n pc L (.int x :: S) := by
  subst hp
  obtain ⟨p, l, e, R, s, m, args, below, meth, cd, Q, g, A⟩ := K
  intro H locs ls hH hS hl hc
  exact lv_if_ne C.1 C.2.1 d ht (fun h => kt h H locs ls hH hS hl hc) (fun h => kf h H locs ls hH hS hl hc)

theorem g_if_lt (C : Cx K cc own nL ret rm z) {x : Int32} {off : Int} {tgt : Nat} (d : decode cc pc = .ok (.ifCond .lt off, 3)) (ht : (pc : Int) + off = (tgt : Int)) (hp : pc + 3 = pc') (kt : x < 0 → G K z I P O c n tgt L S) (kf : ¬ x < 0 → G K z I P O c n pc' L S) : G K z I P O c n pc L (.int x :: S) := by
  subst hp
  obtain ⟨p, l, e, R, s, m, args, below, meth, cd, Q, g, A⟩ := K
  intro H locs ls hH hS hl hc
  exact lv_if_lt C.1 C.2.1 d ht (fun h => kt h H locs ls hH hS hl hc) (fun h => kf h H locs ls hH hS hl hc)

theorem g_if_ge (C : Cx K cc own nL ret rm z) {x : Int32} {off : Int} {tgt : Nat} (d : decode cc pc = .ok (.ifCond .ge off, 3)) (ht : (pc : Int) + off = (tgt : Int)) (hp : pc + 3 = pc') (kt : 0 ≤ x → G K z I P O c n tgt L S) (kf : ¬ 0 ≤ x → G K z I P O c n pc' L S) : G K z I P O c n pc L (.int x :: S) := by
  subst hp
  obtain ⟨p, l, e, R, s, m, args, below, meth, cd, Q, g, A⟩ := K
  intro H locs ls hH hS hl hc
  exact lv_if_ge C.1 C.2.1 d ht (fun h => kt h H locs ls hH hS hl hc) (fun h => kf h H locs ls hH hS hl hc)

theorem g_if_gt (C : Cx K cc own nL ret rm z) {x : Int32} {off : Int} {tgt : Nat} (d : decode cc pc = .ok (.ifCond .gt off, 3)) (ht : (pc : Int) + off = (tgt : Int)) (hp : pc + 3 = pc') (kt : 0 < x → G K z I P O c n tgt L S) (kf : ¬ 0 < x → G K z I P O c n pc' L S) : G K z I P O c n pc L (.int x :: S) := by
  subst hp
  obtain ⟨p, l, e, R, s, m, args, below, meth, cd, Q, g, A⟩ := K
  intro H locs ls hH hS hl hc
  exact lv_if_gt C.1 C.2.1 d ht (fun h => kt h H locs ls hH hS hl hc) (fun h => kf h H locs ls hH hS hl hc)

theorem g_if_le (C : Cx K cc own nL ret rm z) {x : Int32} {off : Int} {tgt : Nat} (d : decode cc pc = .ok (.ifCond .le off, 3)) (ht : (pc : Int) + off = (tgt : Int)) (hp : pc + 3 = pc') (kt : x ≤ 0 → G K z I P O c n tgt L S) (kf : ¬ x ≤ 0 → G K z I P O c n pc' L S) : G K z I P O c n pc L (.int x :: S) := by
  subst hp
  obtain ⟨p, l, e, R, s, m, args, below, meth, cd, Q, g, A⟩ := K
  intro H locs ls hH hS hl hc
  exact lv_if_le C.1 C.2.1 d ht (fun h => kt h H locs ls hH hS hl hc) (fun h => kf h H locs ls hH hS hl hc)

theorem g_icmp_eq (C : Cx K cc own nL ret rm z) {x y : Int32} {off : Int} {tgt : Nat} (d : decode cc pc = .ok (.if_icmp .eq off, 3)) (ht : (pc : Int) + off = (tgt : Int)) (hp : pc + 3 = pc') (kt : x = y → G K z I P O c n tgt L S) (kf : ¬ x = y → G K z I P O c n pc' L S) : G K z I P O c n pc L (.int y :: .int x :: S) := by
  subst hp
  obtain ⟨p, l, e, R, s, m, args, below, meth, cd, Q, g, A⟩ := K
  intro H locs ls hH hS hl hc
  exact lv_icmp_eq C.1 C.2.1 d ht (fun h => kt h H locs ls hH hS hl hc) (fun h => kf h H locs ls hH hS hl hc)

theorem g_icmp_ne (C : Cx K cc own nL ret rm z) {x y : Int32} {off : Int} {tgt : Nat} (d : decode cc pc = .ok (.if_icmp .ne off, 3)) (ht : (pc : Int) + off = (tgt : Int)) (hp : pc + 3 = pc') (kt : ¬ x = y → G K z I P O c n tgt L S) (kf : x = y → G K z I P O c n pc' L S) : G K z I P O c n pc L (.int y :: .int x :: S) := by
  subst hp
  obtain ⟨p, l, e, R, s, m, args, below, meth, cd, Q, g, A⟩ := K
  intro H locs ls hH hS hl hc
  exact lv_icmp_ne C.1 C.2.1 d ht (fun h => kt h H locs ls hH hS hl hc) (fun h => kf h H locs ls hH hS hl hc)

theorem g_icmp_lt (C : Cx K cc own nL ret rm z) {x y : Int32} {off : Int} {tgt : Nat} (d : decode cc pc = .ok (.if_icmp .lt off, 3)) (ht : (pc : Int) + off = (tgt : Int)) (hp : pc + 3 = pc') (kt : x < y → G K z I P O c n tgt L S) (kf : ¬ x < y → G K z I P O c n pc' L S) : G K z I P O c n pc L (.int y :: .int x :: S) := by
  subst hp
  obtain ⟨p, l, e, R, s, m, args, below, meth, cd, Q, g, A⟩ := K
  intro H locs ls hH hS hl hc
  exact lv_icmp_lt C.1 C.2.1 d ht (fun h => kt h H locs ls hH hS hl hc) (fun h => kf h H locs ls hH hS hl hc)

theorem g_icmp_ge (C : Cx K cc own nL ret rm z) {x y : Int32} {off : Int} {tgt : Nat} (d : decode cc pc = .ok (.if_icmp .ge off, 3)) (ht : (pc : Int) + off = (tgt : Int)) (hp : pc + 3 = pc') (kt : y ≤ x → G K z I P O c n tgt L S) (kf : ¬ y ≤ x → G K z I P O c n pc' L S) : G K z I P O c n pc L (.int y :: .int x :: S) := by
  subst hp
  obtain ⟨p, l, e, R, s, m, args, below, meth, cd, Q, g, A⟩ := K
  intro H locs ls hH hS hl hc
  exact lv_icmp_ge C.1 C.2.1 d ht (fun h => kt h H locs ls hH hS hl hc) (fun h => kf h H locs ls hH hS hl hc)

theorem g_icmp_gt (C : Cx K cc own nL ret rm z) {x y : Int32} {off : Int} {tgt : Nat} (d : decode cc pc = .ok (.if_icmp .gt off, 3)) (ht : (pc : Int) + off = (tgt : Int)) (hp : pc + 3 = pc') (kt : y < x → G K z I P O c n tgt L S) (kf : ¬ y < x → G K z I P O c n pc' L S) : G K z I P O c n pc L (.int y :: .int x :: S) := by
  subst hp
  obtain ⟨p, l, e, R, s, m, args, below, meth, cd, Q, g, A⟩ := K
  intro H locs ls hH hS hl hc
  exact lv_icmp_gt C.1 C.2.1 d ht (fun h => kt h H locs ls hH hS hl hc) (fun h => kf h H locs ls hH hS hl hc)

theorem g_icmp_le (C : Cx K cc own nL ret rm z) {x y : Int32} {off : Int} {tgt : Nat} (d : decode cc pc = .ok (.if_icmp .le off, 3)) (ht : (pc : Int) + off = (tgt : Int)) (hp : pc + 3 = pc') (kt : x ≤ y → G K z I P O c n tgt L S) (kf : ¬ x ≤ y → G K z I P O c n pc' L S) : G K z I P O c n pc L (.int y :: .int x :: S) := by
  subst hp
  obtain ⟨p, l, e, R, s, m, args, below, meth, cd, Q, g, A⟩ := K
  intro H locs ls hH hS hl hc
  exact lv_icmp_le C.1 C.2.1 d ht (fun h => kt h H locs ls hH hS hl hc) (fun h => kf h H locs ls hH hS hl hc)

theorem g_acmp_eq (C : Cx K cc own nL ret rm z) {x y : Option Nat} {off : Int} {tgt : Nat} (d : decode cc pc = .ok (.if_acmp .eq off, 3)) (ht : (pc : Int) + off = (tgt : Int)) (hp : pc + 3 = pc') (kt : x = y → G K z I P O c n tgt L S) (kf : ¬ x = y → G K z I P O c n pc' L S) : G K z I P O c n pc L (va_rf y :: va_rf x :: S) := by
  subst hp
  obtain ⟨p, l, e, R, s, m, args, below, meth, cd, Q, g, A⟩ := K
  intro H locs ls hH hS hl hc
  exact lv_acmp_eq C.1 C.2.1 d ht (fun h => kt h H locs ls hH hS hl hc) (fun h => kf h H locs ls hH hS hl hc)

theorem g_acmp_ne (C : Cx K cc own nL ret rm z) {x y : Option Nat} {off : Int} {tgt : Nat} (d : decode cc pc = .ok (.if_acmp .ne off, 3)) (ht : (pc : Int) + off = (tgt : Int)) (hp : pc + 3 = pc') (kt : ¬ x = y → G K z I P O c n tgt L S) (kf : x = y → G K z I P O c n pc' L S) : G K z I P O c n pc L (va_rf y :: va_rf x :: S) := by
  subst hp
  obtain ⟨p, l, e, R, s, m, args, below, meth, cd, Q, g, A⟩ := K
  intro H locs ls hH hS hl hc
  exact lv_acmp_ne C.1 C.2.1 d ht (fun h => kt h H locs ls hH hS hl hc) (fun h => kf h H locs ls hH hS hl hc)

theorem g_goto (C : Cx K cc own nL ret rm z) {off : Int} {tgt : Nat} (d : decode cc pc = .ok (.goto off, 3)) (ht : (pc : Int) + off = (tgt : Int)) (kk : G K z I P O c n tgt L S) : G K z I P O c n pc L S := by
  obtain ⟨p, l, e, R, s, m, args, below, meth, cd, Q, g, A⟩ := K
  intro H locs ls hH hS hl hc
  exact lv_goto C.1 C.2.1 d ht (kk H locs ls hH hS hl hc)
theorem g_ifnonnull (C : Cx K cc own nL ret rm z) {x : Nat} {off : Int} {tgt : Nat} (d : decode cc pc = .ok (.ifnonnull off, 3)) (ht : (pc : Int) + off = (tgt : Int)) (kk : G K z I P O c n tgt L S) : G K z I P O c n pc L (.ref x :: S) := by
  obtain ⟨p, l, e, R, s, m, args, below, meth, cd, Q, g, A⟩ := K
  intro H locs ls hH hS hl hc
  exact lv_ifnonnull C.1 C.2.1 d ht (kk H locs ls hH hS hl hc)
theorem g_ifnullN (C : Cx K cc own nL ret rm z) {off : Int} {tgt : Nat} (d : decode cc pc = .ok (.ifnull off, 3)) (ht : (pc : Int) + off = (tgt : Int)) (kk : G K z I P O c n tgt L S) : G K z I P O c n pc L (.null :: S) := by
  obtain ⟨p, l, e, R, s, m, args, below, meth, cd, Q, g, A⟩ := K
  intro H locs ls hH hS hl hc
  exact lv_ifnullN C.1 C.2.1 d ht (kk H locs ls hH hS hl hc)
theorem g_ifnull (C : Cx K cc own nL ret rm z) {x : Nat} {off : Int} (d : decode cc pc = .ok (.ifnull off, 3)) (hp : pc + 3 = pc') (kk : G K z I P O c n pc' L S) : G K z I P O c n pc L (.ref x :: S) := by
  subst hp
  obtain ⟨p, l, e, R, s, m, args, below, meth, cd, Q, g, A⟩ := K
  intro H locs ls hH hS hl hc
  exact lv_ifnull C.1 C.2.1 d (kk H locs ls hH hS hl hc)
theorem g_ifnonnullN (C : Cx K cc own nL ret rm z) {off : Int} (d : decode cc pc = .ok (.ifnonnull off, 3)) (hp : pc + 3 = pc') (kk : G K z I P O c n pc' L S) : G K z I P O c n pc L (.null :: S) := by
  subst hp
  obtain ⟨p, l, e, R, s, m, args, below, meth, cd, Q, g, A⟩ := K
  intro H locs ls hH hS hl hc
  exact lv_ifnonnullN C.1 C.2.1 d (kk H locs ls hH hS hl hc)
theorem g_tabOut (C : Cx K cc own nL ret rm z) {dflt lo hi : Int} {offs : Array Int} {len : Nat} {x : Int32} {tgt : Nat} (d : decode cc pc = .ok (.tableswitch dflt lo hi offs, len)) (h : x.toInt < lo ∨ hi < x.toInt) (ht : (pc : Int) + dflt = (tgt : Int)) (kk : G K z I P O c n tgt L S) : G K z I P O c n pc L (.int x :: S) := by
  obtain ⟨p, l, e, R, s, m, args, below, meth, cd, Q, g, A⟩ := K
  intro H locs ls hH hS hl hc
  exact lv_tableOut C.1 C.2.1 d h ht (kk H locs ls hH hS hl hc)
theorem g_tabIn (C : Cx K cc own nL ret rm z) {dflt lo hi : Int} {offs : Array Int} {len : Nat} {x : Int32} {off : Int} {tgt : Nat} (k : Int) (hx : x.toInt = k) (d : decode cc pc = .ok (.tableswitch dflt lo hi offs, len)) (h1 : lo ≤ k) (h2 : k ≤ hi) (ho : offs[(k - lo).toNat]? = some off) (ht : (pc : Int) + off = (tgt : Int)) (kk : G K z I P O c n tgt L S) : G K z I P O c n pc L (.int x :: S) := by
  obtain ⟨p, l, e, R, s, m, args, below, meth, cd, Q, g, A⟩ := K
  intro H locs ls hH hS hl hc
  subst hx
  exact lv_tableIn C.1 C.2.1 d (Int.not_lt.mpr h1) (Int.not_lt.mpr h2) ho ht (kk H locs ls hH hS hl hc)

end WBase
end
section
section WRows
variable {p : Program} {l : Launch} {e : Env} {R : Room} {s : State} {m : MethodId} {args : Array Value} {below : List Frame} {meth : Method} {cd : Code} {H : Heap} {locs : List Loc} {cells slots : Nat} {Q : State → Prop}
variable {cc : ByteArray} {pc : Nat} {ls : Array Slot} {rest : List Value} {D : va_G} {cl : List vw_C} {a : Nat} {tys : List (ClassId × FieldType)}
/-- one field of one thing is written; nothing else -/
theorem cl_put (hexec : p.tables.exec = Jvm.exec) (hb : cd.code = cc) {own ref C : String} {T : u_T} {N ci index : Nat} {Ts : List Cond} (hts : ∀ w ∈ Ts, w.before args s = true) (hin : ∀ w ∈ u_ws C T N, w ∈ Ts) (ty0 : Nat → FieldType) (hty : ∀ k, k < N → parseFieldDescriptor (T k).2.2.1 = some (ty0 k)) (hnm : ∀ a, a < N → ∀ b, b < N → a ≠ b → (T a).2.1 ≠ (T b).2.1) (hown : s.vm.findClass own = some m.cls) (hK : va_K D cl tys s) {fs : List Value} (hP : va_at D cl (a, .inr (ci, fs)) H) (hc : cl[ci]? = some (C, T, N)) (k : Nat) (hk : k < N) (hlink : (Cond.fieldLink own index ref (T k).2.1 (T k).2.2.1).before args s = true) (hsame : ∀ x, s.fieldFound? (T k).1 (T k).2.1 (T k).2.2.1 = some x → s.fieldFound? ref (T k).2.1 (T k).2.2.1 = some x) (hfin : (T k).2.2.2 = false) {ty : FieldType} {v : Value} (hd : parseFieldDescriptor (T k).2.2.1 = some ty) (hn : narrow ty v = v) (hfit : fits ty v = true) (hl : k < fs.length)
    (hdg : decode cc pc = .ok (.putfield index, 3)) (kk : ∀ (H1 : Heap) (j : Nat), va_at D cl (a, .inr (ci, fs.set k v)) H1 → H1.size = H.size → (∀ q : Nat, q ≠ a → H1[q]? = H[q]?) → W p l e R s m args below meth cd H1 (locs ++ [⟨a, j⟩]) cells slots Q (F0 m (pc + 3) ls rest)) : W p l e R s m args below meth cd H locs cells slots Q (F0 m pc ls (v :: .ref a :: rest)) := by
  have hap := va_apart (own := own) hts hin ty0 hty hnm hK hc
  obtain ⟨r, h1, cell, q1, q2, q3, q4⟩ := hP
  have hr : r = (C, T, N) := Option.some.inj (h1.symm.trans hc)
  subst hr
  obtain ⟨hS, hfc, kC, hkC, hkind⟩ := hK.1 ci _ hc
  obtain ⟨cf, kf, fi, f, hi, hsl⟩ := hS k hk
  have hlay := hts _ (hin _ (u_in_lay hk))
  unfold u_lay at hlay
  rw [if_neg (by rw [hfin]; decide)] at hlay
  have hst := (u_facts hfc hkC (u_lays hts hin hk) hi).1
  have h6 := u_store hfc hkC hkind hlay hi hd hn hfit
  refine W.putK hexec hb (f := f) ⟨hown, hlink, ⟨_, _, _, hsame _ hi⟩, hst⟩ (by rw [q2]; exact h6) q1 q3 (by rw [hsl]; exact k2_hasslot (q4 k hk)) rfl rfl hdg fun H' e1 e2 e3 => ?_
  rw [hsl] at e1 ⊢
  exact kk H' _ ⟨_, hc, t_OB.to (V := updV (vp_V fs) k v) ⟨_, e1, q2, q3, t_set q4 hap hk v⟩ (fun j _ => vp_updV_set hl v j)⟩ e2 e3
theorem cl_one {q : Nat × va_E} (h : va_at D cl q H) : va_P D cl [q] H := fun k x hx => by
  cases k with
  | zero => cases hx; exact h
  | succ k => cases hx
theorem cl_iast (hexec : p.tables.exec = Jvm.exec) (hb : cd.code = cc) (hK : va_K D cl tys s) (t0 : Nat) {cA : ClassId} {n : Nat} {f : Nat → Int32} (ha : va_at D cl (a, .inl (cA, n, .inl f)) H) (ht : tys[t0]? = some (cA, .int)) {i : Int32} {x : Int32} (hin : vp_in i n) (hdg : decode cc pc = .ok (.iastore, 1))
    (kk : ∀ (H1 : Heap) (j : Nat), va_at D cl (a, .inl (cA, n, .inl (upd f i.toNatClampNeg x))) H1 → H1.size = H.size → (∀ q : Nat, q ≠ a → H1[q]? = H[q]?) → W p l e R s m args below meth cd H1 (locs ++ [⟨a, j⟩]) cells slots Q (F0 m (pc + 1) ls rest)) : W p l e R s m args below meth cd H locs cells slots Q (F0 m pc ls (.int x :: .int i :: .ref a :: rest)) := by
  refine W.iast hexec hb ha ((hK.2 t0 _ ht).1 n (fun j => .int (f j))) (fun q => by cases q) (by show ¬ (i < 0 ∨ (arrV _ _ _).slots.size ≤ _); rw [arrV_size]; exact hin) rfl rfl hdg fun H1 e z oq => ?_
  refine kk H1 _ ?_ z oq
  show H1[a]? = some (vp_cell _ _)
  rw [e]
  rw [vp_cell_i, vp_cell_i, arrV_store]
  congr 2
  funext q
  by_cases hq : q = i.toNatClampNeg
  · subst hq
    simp [updV, upd]
  · simp [updV, upd, hq]
theorem cl_zast (hexec : p.tables.exec = Jvm.exec) (hb : cd.code = cc) (hK : va_K D cl tys s) (t0 : Nat) {cA : ClassId} {n : Nat} {f : Nat → Int32} (ha : va_at D cl (a, .inl (cA, n, .inl f)) H) (ht : tys[t0]? = some (cA, .boolean)) {i : Int32} {x : Int32} (hin : vp_in i n) (hdg : decode cc pc = .ok (.bastore, 1))
    (kk : ∀ (H1 : Heap) (j : Nat), va_at D cl (a, .inl (cA, n, .inl (upd f i.toNatClampNeg (vp_nar .boolean x)))) H1 → H1.size = H.size → (∀ q : Nat, q ≠ a → H1[q]? = H[q]?) → W p l e R s m args below meth cd H1 (locs ++ [⟨a, j⟩]) cells slots Q (F0 m (pc + 1) ls rest)) : W p l e R s m args below meth cd H locs cells slots Q (F0 m pc ls (.int x :: .int i :: .ref a :: rest)) := by
  refine W.zast hexec hb ha ((hK.2 t0 _ ht).1 n (fun j => .int (f j))) (fun q => by cases q) (by show ¬ (i < 0 ∨ (arrV _ _ _).slots.size ≤ _); rw [arrV_size]; exact hin) rfl rfl hdg fun H1 e z oq => ?_
  refine kk H1 _ ?_ z oq
  show H1[a]? = some (vp_cell _ _)
  rw [e]
  rw [vp_cell_i, vp_cell_i, arrV_store]
  congr 2
  funext q
  by_cases hq : q = i.toNatClampNeg
  · subst hq
    simp [updV, upd, vp_nar]
    try rfl
  · simp [updV, upd, hq]
theorem cl_last (hexec : p.tables.exec = Jvm.exec) (hb : cd.code = cc) (hK : va_K D cl tys s) (t0 : Nat) {cA : ClassId} {n : Nat} {f : Nat → Int64} (ha : va_at D cl (a, .inl (cA, n, .inr (.inl f))) H) (ht : tys[t0]? = some (cA, .long)) {i : Int32} {x : Int64} (hin : vp_in i n) (hdg : decode cc pc = .ok (.lastore, 1))
    (kk : ∀ (H1 : Heap) (j : Nat), va_at D cl (a, .inl (cA, n, .inr (.inl (vp_updL f i.toNatClampNeg x)))) H1 → H1.size = H.size → (∀ q : Nat, q ≠ a → H1[q]? = H[q]?) → W p l e R s m args below meth cd H1 (locs ++ [⟨a, j⟩]) cells slots Q (F0 m (pc + 1) ls rest)) : W p l e R s m args below meth cd H locs cells slots Q (F0 m pc ls (.long x :: .int i :: .ref a :: rest)) := by
  refine W.last hexec hb ha ((hK.2 t0 _ ht).1 n (fun j => .long (f j))) (fun q => by cases q) (by show ¬ (i < 0 ∨ (arrV _ _ _).slots.size ≤ _); rw [arrV_size]; exact hin) rfl rfl hdg fun H1 e z oq => ?_
  refine kk H1 _ ?_ z oq
  show H1[a]? = some (vp_cell _ _)
  rw [e]
  rw [vp_cell_l, vp_cell_l, arrV_store]
  congr 2
  funext q
  by_cases hq : q = i.toNatClampNeg
  · subst hq
    simp [updV, vp_updL]
  · simp [updV, vp_updL, hq]
theorem cl_aast (hexec : p.tables.exec = Jvm.exec) (hb : cd.code = cc) (hK : va_K D cl tys s) (t0 ci : Nat) {cA : ClassId} {r : vw_C} {n v : Nat} {vs : List Value} {f : Nat → Option Nat} (ha : va_at D cl (a, .inl (cA, n, .inr (.inr (.inr (.inr f))))) H) (ht : tys[t0]? = some (cA, .object r.1)) (hv : va_at D cl (v, .inr (ci, vs)) H) (hc : cl[ci]? = some r) {i : Int32} (hin : vp_in i n) (hdg : decode cc pc = .ok (.aastore, 1))
    (kk : ∀ (H1 : Heap) (j : Nat), va_at D cl (a, .inl (cA, n, .inr (.inr (.inr (.inr (va_up f i.toNatClampNeg (some v))))))) H1 → H1.size = H.size → (∀ q : Nat, q ≠ a → H1[q]? = H[q]?) → W p l e R s m args below meth cd H1 (locs ++ [⟨a, j⟩]) cells slots Q (F0 m (pc + 1) ls rest)) : W p l e R s m args below meth cd H locs cells slots Q (F0 m pc ls (.ref v :: .int i :: .ref a :: rest)) := by
  have hlt : i.toNatClampNeg < n := Nat.not_le.mp fun q => hin (Or.inr q)
  have h0 : ¬ i < 0 := fun q => hin (Or.inl q)
  obtain ⟨r', hr', cellV, g1, g2, g3, -⟩ := hv
  have hcls := (hK.1 ci r hc).2
  obtain ⟨kA, comp, k1, k2, k3, -⟩ := (hK.2 t0 _ ht).2
  have hcomp : comp = D.1 ci := Option.some.inj (k3.symm.trans hcls.1)
  subst hcomp
  obtain ⟨kC, hkC, -⟩ := hcls.2
  refine W.aast hexec hb ha (fun q h => by cases h) (fun h => by cases h) k1 k2 rfl hkC ⟨h0, by show _ < (arrV _ _ _).slots.size; rw [arrV_size]; exact hlt⟩ g1 (fun q h => by rw [g3] at h; cases h) (by rw [g2]; exact hkC) (by rw [g2]; exact va_assign hcls) rfl rfl hdg fun H1 e z oq => ?_
  refine kk H1 _ ?_ z oq
  show H1[a]? = some (vp_cell _ _)
  rw [e]
  rw [vp_cell_q, vp_cell_q, arrV_store]
  congr 2
  funext q
  by_cases hq : q = i.toNatClampNeg
  · subst hq
    simp [updV, va_up, va_rf]
  · simp [updV, va_up, hq]
theorem cl_aastN (hexec : p.tables.exec = Jvm.exec) (hb : cd.code = cc) (hK : va_K D cl tys s) (t0 : Nat) {cA : ClassId} {C : String} {n : Nat} {f : Nat → Option Nat} (ha : va_at D cl (a, .inl (cA, n, .inr (.inr (.inr (.inr f))))) H) (ht : tys[t0]? = some (cA, .object C)) {i : Int32} (hin : vp_in i n) (hdg : decode cc pc = .ok (.aastore, 1))
    (kk : ∀ (H1 : Heap) (j : Nat), va_at D cl (a, .inl (cA, n, .inr (.inr (.inr (.inr (va_up f i.toNatClampNeg none)))))) H1 → H1.size = H.size → (∀ q : Nat, q ≠ a → H1[q]? = H[q]?) → W p l e R s m args below meth cd H1 (locs ++ [⟨a, j⟩]) cells slots Q (F0 m (pc + 1) ls rest)) : W p l e R s m args below meth cd H locs cells slots Q (F0 m pc ls (.null :: .int i :: .ref a :: rest)) := by
  refine va_WaastN (C := C) hexec hb ha ((hK.2 t0 _ ht).1 n (fun j => va_rf (f j))) (fun h => by cases h) (by show ¬ (i < 0 ∨ (arrV _ _ _).slots.size ≤ _); rw [arrV_size]; exact hin) rfl rfl hdg fun H1 e z oq => ?_
  refine kk H1 _ ?_ z oq
  show H1[a]? = some (vp_cell _ _)
  rw [e]
  rw [vp_cell_q, vp_cell_q, arrV_store]
  congr 2
  funext q
  by_cases hq : q = i.toNatClampNeg
  · subst hq
    simp [updV, va_up, va_rf]
  · simp [updV, va_up, hq]
end WRows
section WRows2
variable {K : wK} {cc : ByteArray} {own : String} {nL : Nat} {ret : Option FieldType} {rm : Room} {z : wZ} {I : wI} {P : wP} {O : wO} {c n pc pc' : Nat} {L : List (Nat × Value)} {S : List Value}
theorem g_getf (C : Cx K cc own nL ret rm z) {ci index k i f N : Nat} {fs : List Value} {v : Value} {Cn ref : String} {T : u_T} (d : decode cc pc = .ok (.getfield index, 3)) (hal : wAl z k i) (he : wE (Kg K) (I k i) (P k i) O k i = .inr (ci, fs)) (hc : vwCl[ci]? = some (Cn, T, N)) (hin : ∀ w ∈ u_ws Cn T N, w ∈ wAll) (hk : f < N) (hlink : Cond.fieldLink own index ref (T f).2.1 (T f).2.2.1 ∈ wAll) (hsame : (T f).1 = ref) (hv : fs[f]? = some v) (hp : pc + 3 = pc') (kk : G K z I P O c n pc' L (v :: S)) : G K z I P O c n pc L (.ref ((Kg K).2.2 k i) :: S) := by
  subst hp
  subst hsame
  obtain ⟨p, l, e, R, s, m, args, below, meth, cd, Q, g, A⟩ := K
  obtain ⟨hx, hb, -, -, hown, hts, -, hK, -, -⟩ := C
  intro H locs ls hH hS hl hcat
  have hP := cl_one (hH.1 k i hal)
  rw [show wE g (I k i) (P k i) O k i = .inr (ci, fs) from he] at hP
  exact va_get hx hb hts hin hown hK hP 0 rfl hc f hk (hts _ hlink) (fun _ h => h) hv d (kk H locs ls hH hS hl hcat)
theorem g_putf (C : Cx K cc own nL ret rm z) {ci index k i f N : Nat} {fs : List Value} {x : Int32} {Cn ref : String} {T : u_T} {ty0 : Nat → FieldType} {ty : FieldType} (d : decode cc pc = .ok (.putfield index, 3)) (hal : wAl z k i) (he : wE (Kg K) (I k i) (P k i) O k i = .inr (ci, fs)) (hc : vwCl[ci]? = some (Cn, T, N)) (hin : ∀ w ∈ u_ws Cn T N, w ∈ wAll) (hty : ∀ k, k < N → parseFieldDescriptor (T k).2.2.1 = some (ty0 k)) (hnm : ∀ a, a < N → ∀ b, b < N → a ≠ b → (T a).2.1 ≠ (T b).2.1) (hk : f < N) (hlink : Cond.fieldLink own index ref (T f).2.1 (T f).2.2.1 ∈ wAll) (hsame : (T f).1 = ref) (hfin : (T f).2.2.2 = false) (hd : parseFieldDescriptor (T f).2.2.1 = some ty) (hn : narrow ty (.int x) = .int x) (hfit : fits ty (.int x) = true) (hl : f < fs.length)
    (he' : wE (Kg K) (upd (I k i) f x) (P k i) O k i = .inr (ci, fs.set f (.int x))) (hp : pc + 3 = pc') (kk : G K z (upI I k i f x) P O c n pc' L S) : G K z I P O c n pc L (.int x :: .ref ((Kg K).2.2 k i) :: S) := by
  subst hp
  subst hsame
  obtain ⟨p, l, e, R, s, m, args, below, meth, cd, Q, g, A⟩ := K
  obtain ⟨hx, hb, -, -, hown, hts, -, hK, -, hA⟩ := C
  intro H locs ls hH hS hl2 hcat
  have hP := hH.1 k i hal
  rw [show wE g (I k i) (P k i) O k i = .inr (ci, fs) from he] at hP
  refine cl_put hx hb hts hin ty0 hty hnm hown hK hP hc f hk (hts _ hlink) (fun _ h => h) hfin hd hn hfit hl d (fun H1 j h1 hz oq => ?_)
  refine kk H1 _ ls (hH.put hal (fun a b h => upI_off I x h) (fun _ _ _ => rfl) (fun _ _ _ _ => rfl) ?_ oq) (hS.put hz oq (hA k i hal)) hl2 hcat
  rw [upI_row, show wE g (upd (I k i) f x) (P k i) O k i = _ from he']
  exact h1
theorem g_iald (C : Cx K cc own nL ret rm z) {k i N : Nat} {j : Int32} (t : Nat) (hj : j = nI t) (ht : t < N) (d : decode cc pc = .ok (.iaload, 1)) (hal : wAl z k i) (he : wE (Kg K) (I k i) (P k i) O k i = .inl ((Kg K).2.1 0, N, .inl (I k i))) (hN : Nat.blt N 5000 = true) (hp : pc + 1 = pc') (kk : G K z I P O c n pc' L (.int (I k i t) :: S)) : G K z I P O c n pc L (.int j :: .ref ((Kg K).2.2 k i) :: S) := by
  subst hp
  subst hj
  have hN : N < 5000 := Nat.le_of_ble_eq_true hN
  obtain ⟨p, l, e, R, s, m, args, below, meth, cd, Q, g, A⟩ := K
  obtain ⟨hx, hb, -, -, hown, hts, -, hK, -, hA⟩ := C
  intro H locs ls hH hS hl hcat
  have hP := cl_one (hH.1 k i hal)
  rw [show wE g (I k i) (P k i) O k i = _ from he] at hP
  have kk := kk H locs ls hH hS hl hcat
  rw [← nI_clamp (n := t) (by omega)] at kk
  exact va_iald hx hb hK hP 0 0 rfl rfl (vp_in_nI ht (by omega)) d kk
theorem g_zald (C : Cx K cc own nL ret rm z) {k i N : Nat} {j : Int32} (t : Nat) (hj : j = nI t) (ht : t < N) (d : decode cc pc = .ok (.baload, 1)) (hal : wAl z k i) (he : wE (Kg K) (I k i) (P k i) O k i = .inl ((Kg K).2.1 1, N, .inl (I k i))) (hN : Nat.blt N 5000 = true) (hp : pc + 1 = pc') (kk : G K z I P O c n pc' L (.int (I k i t) :: S)) : G K z I P O c n pc L (.int j :: .ref ((Kg K).2.2 k i) :: S) := by
  subst hp
  subst hj
  have hN : N < 5000 := Nat.le_of_ble_eq_true hN
  obtain ⟨p, l, e, R, s, m, args, below, meth, cd, Q, g, A⟩ := K
  obtain ⟨hx, hb, -, -, hown, hts, -, hK, -, hA⟩ := C
  intro H locs ls hH hS hl hcat
  have hP := cl_one (hH.1 k i hal)
  rw [show wE g (I k i) (P k i) O k i = _ from he] at hP
  have kk := kk H locs ls hH hS hl hcat
  rw [← nI_clamp (n := t) (by omega)] at kk
  exact va_zald hx hb hK hP 0 1 rfl rfl (vp_in_nI ht (by omega)) d kk
theorem g_iast (C : Cx K cc own nL ret rm z) {k i N : Nat} {j x : Int32} (t : Nat) (hj : j = nI t) (ht : t < N) (d : decode cc pc = .ok (.iastore, 1)) (hal : wAl z k i) (he : ∀ f, wE (Kg K) f (P k i) O k i = .inl ((Kg K).2.1 0, N, .inl f)) (hN : Nat.blt N 5000 = true) (hp : pc + 1 = pc') (kk : G K z (upI I k i t x) P O c n pc' L S) : G K z I P O c n pc L (.int x :: .int j :: .ref ((Kg K).2.2 k i) :: S) := by
  subst hp
  subst hj
  have hN : N < 5000 := Nat.le_of_ble_eq_true hN
  obtain ⟨p, l, e, R, s, m, args, below, meth, cd, Q, g, A⟩ := K
  obtain ⟨hx, hb, -, -, hown, hts, -, hK, -, hA⟩ := C
  intro H locs ls hH hS hl hcat
  have hP := hH.1 k i hal
  rw [show wE g (I k i) (P k i) O k i = _ from he _] at hP
  refine cl_iast hx hb hK 0 hP rfl (vp_in_nI ht (by omega)) d (fun H1 q h1 hz oq => ?_)
  refine kk H1 _ ls (hH.put hal (fun a b h => upI_off I x h) (fun _ _ _ => rfl) (fun _ _ _ _ => rfl) ?_ oq) (hS.put hz oq (hA k i hal)) hl hcat
  rw [upI_row, show wE g (upd (I k i) t x) (P k i) O k i = _ from he _]
  rw [nI_clamp (n := t) (by omega)] at h1
  exact h1
theorem g_zast (C : Cx K cc own nL ret rm z) {k i N : Nat} {j x : Int32} (t : Nat) (hj : j = nI t) (ht : t < N) (hx01 : vp_nar .boolean x = x) (d : decode cc pc = .ok (.bastore, 1)) (hal : wAl z k i) (he : ∀ f, wE (Kg K) f (P k i) O k i = .inl ((Kg K).2.1 1, N, .inl f)) (hN : Nat.blt N 5000 = true) (hp : pc + 1 = pc') (kk : G K z (upI I k i t x) P O c n pc' L S) : G K z I P O c n pc L (.int x :: .int j :: .ref ((Kg K).2.2 k i) :: S) := by
  subst hp
  subst hj
  have hN : N < 5000 := Nat.le_of_ble_eq_true hN
  obtain ⟨p, l, e, R, s, m, args, below, meth, cd, Q, g, A⟩ := K
  obtain ⟨hx, hb, -, -, hown, hts, -, hK, -, hA⟩ := C
  intro H locs ls hH hS hl hcat
  have hP := hH.1 k i hal
  rw [show wE g (I k i) (P k i) O k i = _ from he _] at hP
  refine cl_zast hx hb hK 1 hP rfl (vp_in_nI ht (by omega)) d (fun H1 q h1 hz oq => ?_)
  refine kk H1 _ ls (hH.put hal (fun a b h => upI_off I x h) (fun _ _ _ => rfl) (fun _ _ _ _ => rfl) ?_ oq) (hS.put hz oq (hA k i hal)) hl hcat
  rw [upI_row, show wE g (upd (I k i) t x) (P k i) O k i = _ from he _]
  rw [nI_clamp (n := t) (by omega), hx01] at h1
  exact h1
/-- a row of things: what lies there is known -/
theorem g_aald (C : Cx K cc own nL ret rm z) {k i N k2 t0 : Nat} {j : Int32} {Cn : String} {cA : ClassId} {o : Option Nat} (t : Nat) (hj : j = nI t) (ht : t < N) (hq : P k i t = o) (d : decode cc pc = .ok (.aaload, 1)) (hal : wAl z k i) (he : wE (Kg K) (I k i) (P k i) O k i = .inl (cA, N, .inr (.inr (.inr (.inr (fun j => (P k i j).map ((Kg K).2.2 k2))))))) (hty : (wTy (Kg K))[t0]? = some (cA, .object Cn)) (hN : Nat.blt N 5000 = true) (hp : pc + 1 = pc') (kk : G K z I P O c n pc' L (va_rf (o.map ((Kg K).2.2 k2)) :: S)) : G K z I P O c n pc L (.int j :: .ref ((Kg K).2.2 k i) :: S) := by
  subst hp
  subst hj
  subst hq
  have hN : N < 5000 := Nat.le_of_ble_eq_true hN
  obtain ⟨p, l, e, R, s, m, args, below, meth, cd, Q, g, A⟩ := K
  obtain ⟨hx, hb, -, -, hown, hts, -, hK, -, hA⟩ := C
  intro H locs ls hH hS hl hcat
  have hP := cl_one (hH.1 k i hal)
  rw [show wE g (I k i) (P k i) O k i = _ from he] at hP
  have kk := kk H locs ls hH hS hl hcat
  rw [← nI_clamp (n := t) (by omega)] at kk
  exact va_aldq hx hb hK hP 0 t0 rfl hty (vp_in_nI ht (by omega)) d kk
theorem wQ_up {ad : Nat → Nat} {f : Nat → Option Nat} {t : Nat} {v : Option Nat} : (fun j => (va_up f t v j).map ad) = va_up (fun j => (f j).map ad) t (v.map ad) := by
  funext j
  unfold va_up
  split <;> rfl
theorem g_aast (C : Cx K cc own nL ret rm z) {k i N k2 t0 ci v : Nat} {j : Int32} {r : vw_C} {vs : List Value} {cA : ClassId} (t : Nat) (hj : j = nI t) (ht : t < N) (d : decode cc pc = .ok (.aastore, 1)) (hal : wAl z k i) (halv : wAl z k2 v) (he : ∀ q, wE (Kg K) (I k i) q O k i = .inl (cA, N, .inr (.inr (.inr (.inr (fun j => (q j).map ((Kg K).2.2 k2))))))) (hev : wE (Kg K) (I k2 v) (P k2 v) O k2 v = .inr (ci, vs)) (hc : vwCl[ci]? = some r) (hty : (wTy (Kg K))[t0]? = some (cA, .object r.1)) (hN : Nat.blt N 5000 = true) (hp : pc + 1 = pc') (kk : G K z I (upP P k i t (some v)) O c n pc' L S) : G K z I P O c n pc L (.ref ((Kg K).2.2 k2 v) :: .int j :: .ref ((Kg K).2.2 k i) :: S) := by
  subst hp
  subst hj
  have hN : N < 5000 := Nat.le_of_ble_eq_true hN
  obtain ⟨p, l, e, R, s, m, args, below, meth, cd, Q, g, A⟩ := K
  obtain ⟨hx, hb, -, -, hown, hts, -, hK, -, hA⟩ := C
  intro H locs ls hH hS hl hcat
  have hP := hH.1 k i hal
  rw [show wE g (I k i) (P k i) O k i = _ from he _] at hP
  have hV := hH.1 k2 v halv
  rw [show wE g (I k2 v) (P k2 v) O k2 v = _ from hev] at hV
  refine cl_aast hx hb hK t0 ci hP hty hV hc (vp_in_nI ht (by omega)) d (fun H1 q h1 hz oq => ?_)
  refine kk H1 _ ls (hH.put hal (fun _ _ _ => rfl) (fun a b h => upP_off P _ h) (fun _ _ _ _ => rfl) ?_ oq) (hS.put hz oq (hA k i hal)) hl hcat
  rw [upP_row, show wE g (I k i) (va_up (P k i) t (some v)) O k i = _ from he _, wQ_up]
  rw [nI_clamp (n := t) (by omega)] at h1
  exact h1
theorem g_aastN (C : Cx K cc own nL ret rm z) {k i N k2 t0 : Nat} {j : Int32} {Cn : String} {cA : ClassId} (t : Nat) (hj : j = nI t) (ht : t < N) (d : decode cc pc = .ok (.aastore, 1)) (hal : wAl z k i) (he : ∀ q, wE (Kg K) (I k i) q O k i = .inl (cA, N, .inr (.inr (.inr (.inr (fun j => (q j).map ((Kg K).2.2 k2))))))) (hty : (wTy (Kg K))[t0]? = some (cA, .object Cn)) (hN : Nat.blt N 5000 = true) (hp : pc + 1 = pc') (kk : G K z I (upP P k i t none) O c n pc' L S) : G K z I P O c n pc L (.null :: .int j :: .ref ((Kg K).2.2 k i) :: S) := by
  subst hp
  subst hj
  have hN : N < 5000 := Nat.le_of_ble_eq_true hN
  obtain ⟨p, l, e, R, s, m, args, below, meth, cd, Q, g, A⟩ := K
  obtain ⟨hx, hb, -, -, hown, hts, -, hK, -, hA⟩ := C
  intro H locs ls hH hS hl hcat
  have hP := hH.1 k i hal
  rw [show wE g (I k i) (P k i) O k i = _ from he _] at hP
  refine cl_aastN hx hb hK t0 hP hty (vp_in_nI ht (by omega)) d (fun H1 q h1 hz oq => ?_)
  refine kk H1 _ ls (hH.put hal (fun _ _ _ => rfl) (fun a b h => upP_off P _ h) (fun _ _ _ _ => rfl) ?_ oq) (hS.put hz oq (hA k i hal)) hl hcat
  rw [upP_row, show wE g (I k i) (va_up (P k i) t none) O k i = _ from he _, wQ_up]
  rw [nI_clamp (n := t) (by omega)] at h1
  exact h1
theorem g_alen (C : Cx K cc own nL ret rm z) {k i t0 : Nat} {cA : ClassId} {x : vp_A} {ty : FieldType} {v : Int32} (d : decode cc pc = .ok (.arraylength, 1)) (hal : wAl z k i) (he : wE (Kg K) (I k i) (P k i) O k i = .inl (cA, x)) (hty : (wTy (Kg K))[t0]? = some (cA, ty)) (hv : Int32.ofNat x.1 = v) (hp : pc + 1 = pc') (kk : G K z I P O c n pc' L (.int v :: S)) : G K z I P O c n pc L (.ref ((Kg K).2.2 k i) :: S) := by
  subst hp
  obtain ⟨p, l, e, R, s, m, args, below, meth, cd, Q, g, A⟩ := K
  obtain ⟨hx, hb, -, -, hown, hts, -, hK, -, hA⟩ := C
  intro H locs ls hH hS hl hcat
  have hP := cl_one (hH.1 k i hal)
  rw [show wE g (I k i) (P k i) O k i = _ from he] at hP
  exact va_alen hx hb hK hP 0 t0 rfl hty hv d (kk H locs ls hH hS hl hcat)
theorem g_acmp_ne2 (C : Cx K cc own nL ret rm z) {k i j : Nat} {off : Int} {tgt : Nat} (hi : wAl z k i) (hj : wAl z k j) (d : decode cc pc = .ok (.if_acmp .ne off, 3)) (ht : (pc : Int) + off = (tgt : Int)) (hp : pc + 3 = pc') (kt : ¬ i = j → G K z I P O c n tgt L S) (kf : i = j → G K z I P O c n pc' L S) : G K z I P O c n pc L (.ref ((Kg K).2.2 k j) :: .ref ((Kg K).2.2 k i) :: S) := by
  subst hp
  obtain ⟨p, l, e, R, s, m, args, below, meth, cd, Q, g, A⟩ := K
  intro H locs ls hH hS hl hc
  refine lv_acmp_ne (rx := some (g.2.2 k i)) (ry := some (g.2.2 k j)) C.1 C.2.1 d ht (fun h => kt (fun q => h (by rw [q])) H locs ls hH hS hl hc) (fun h => kf (hH.2 k i k j hi hj (Option.some.inj h)).2 H locs ls hH hS hl hc)
theorem g_acmp_eq2 (C : Cx K cc own nL ret rm z) {k i j : Nat} {off : Int} {tgt : Nat} (hi : wAl z k i) (hj : wAl z k j) (d : decode cc pc = .ok (.if_acmp .eq off, 3)) (ht : (pc : Int) + off = (tgt : Int)) (hp : pc + 3 = pc') (kt : i = j → G K z I P O c n tgt L S) (kf : ¬ i = j → G K z I P O c n pc' L S) : G K z I P O c n pc L (.ref ((Kg K).2.2 k j) :: .ref ((Kg K).2.2 k i) :: S) := by
  subst hp
  obtain ⟨p, l, e, R, s, m, args, below, meth, cd, Q, g, A⟩ := K
  intro H locs ls hH hS hl hc
  refine lv_acmp_eq (rx := some (g.2.2 k i)) (ry := some (g.2.2 k j)) C.1 C.2.1 d ht (fun h => kt (hH.2 k i k j hi hj (Option.some.inj h)).2 H locs ls hH hS hl hc) (fun h => kf (fun q => h (by rw [q])) H locs ls hH hS hl hc)
/-- the end of a method that makes nothing -/
def rQ (g : wG) (z : wZ) (O : wO) (post : Option Value → wI → wP → Prop) : Array Value → State → Outcome → State → Prop := fun _ st oc t => (∃ (v : Option Value) (I' : wI) (P' : wP), oc = .returned v ∧ post v I' P' ∧ wHd g z I' P' O t.heap) ∧ va_F (wA g z) st t
def Rx : wK → wZ → wO → (Option Value → wI → wP → Prop) → Prop
  | (p, l, e, R, s, m, args, below, meth, cd, Q, g, A), z, O, post => Q = MQ below (rQ g z O post) args s 0 0 (wA g z) ∧ A = wA g z
def RT (l : Launch) (y : MethodName) (bc : ByteArray) (mxl : Nat) (ret : Option FieldType) (rm : Room) (g : wG) (z : wZ) (args : List Value) (I : wI) (P : wP) (O : wO) (post : Option Value → wI → wP → Prop) : Prop := Met l y (.code y bc mxl ret :: wAll) rm (va_Pc args (fun U => wHd g z I P O U.heap ∧ va_K g.1 vwCl (wTy g) U)) (rQ g z O post) 0 0 (wA g z)
theorem RT.of {l : Launch} {y : MethodName} {bc : ByteArray} {mxl : Nat} {ret : Option FieldType} {rm : Room} {g : wG} {z : wZ} {args : List Value} {I : wI} {P : wP} {O : wO} {post : Option Value → wI → wP → Prop} {own : String} (ho : y.cls = own) (hy : plainName y.cls = true) (hn : (lg_sl args).length ≤ mxl) (hcat0 : (lv_args 0 args).all (fun q => q.2.category == 1) = true)
    (walk : ∀ K : wK, Cx K bc own mxl ret rm z → Kl K = l → Kg K = g → Rx K z O post → G K z I P O 0 0 0 (lv_args 0 args) []) : RT l y bc mxl ret rm g z args I P O post := by
  have hcat : ∀ q ∈ lv_args 0 args, q.2.category = 1 := fun q hq => by simpa using List.all_eq_true.mp hcat0 q hq
  refine Met.ofW (cc := bc) (maxL := mxl) (ret := ret) hy rfl ?_
  intro p e s m av below meth c s₁ B hml hv
  obtain ⟨rfl, hH, hK⟩ := hv
  rw [lg_entry_eq]
  have hts := atoms_spec (ws := .code y bc mxl ret :: wAll) B.pre
  have hl := lv_entry args hn
  refine walk (p, l, e, rm, s, m, args.toArray, below, meth, c, MQ below (rQ g z O post) args.toArray s 0 0 (wA g z), g, wA g z) ⟨B.exec, B.bytes, B.returns, hml, ?_, fun w hw => hts w (List.mem_cons_of_mem _ hw), B.notSynchronized, hK, rfl, fun k i h => ⟨k, i, h, rfl⟩⟩ rfl rfl ⟨rfl, rfl⟩ s.heap [] _ hH va_S.rf ?_ hcat
  · rw [← ho]; exact findClass_of_methodNamed B.named
  · rw [hml]; exact hl
theorem g_iret {post : Option Value → wI → wP → Prop} {v : Int32} (C : Cx K cc own nL (some .int) rm z) (hR : Rx K z O post) (d : decode cc pc = .ok (.ireturn, 1)) (hq : post (some (.int v)) I P) : G K z I P O 0 0 pc L [.int v] := by
  obtain ⟨p, l, e, R, s, m, args, below, meth, cd, Q, g, A⟩ := K
  obtain ⟨rfl, rfl⟩ := hR
  obtain ⟨hx, hb, hr, -, hown, hts, hlk, hK, -, hA⟩ := C
  intro H locs ls hH hS hl hc
  exact W.iret hx hb hr (fun t ht hW => ⟨⟨_, I, P, rfl, hq, by rw [ht]; exact hH⟩, hS.F ht⟩) hS.2.2 d hlk
theorem g_zret {post : Option Value → wI → wP → Prop} {v : Int32} (C : Cx K cc own nL (some .boolean) rm z) (hR : Rx K z O post) (d : decode cc pc = .ok (.ireturn, 1)) (hv : narrow .boolean (.int v) = .int v) (hq : post (some (.int v)) I P) : G K z I P O 0 0 pc L [.int v] := by
  obtain ⟨p, l, e, R, s, m, args, below, meth, cd, Q, g, A⟩ := K
  obtain ⟨rfl, rfl⟩ := hR
  obtain ⟨hx, hb, hr, -, hown, hts, hlk, hK, -, hA⟩ := C
  intro H locs ls hH hS hl hc
  exact W.zret hx hb hr hv (fun t ht hW => ⟨⟨_, I, P, rfl, hq, by rw [ht]; exact hH⟩, hS.F ht⟩) hS.2.2 d hlk
theorem g_aret {post : Option Value → wI → wP → Prop} {v : Value} {nm : String} (C : Cx K cc own nL (some (.object nm)) rm z) (hR : Rx K z O post) (d : decode cc pc = .ok (.areturn, 1)) (hv : v = .null ∨ ∃ a, v = .ref a) (hq : post (some v) I P) : G K z I P O 0 0 pc L [v] := by
  obtain ⟨p, l, e, R, s, m, args, below, meth, cd, Q, g, A⟩ := K
  obtain ⟨rfl, rfl⟩ := hR
  obtain ⟨hx, hb, hr, -, hown, hts, hlk, hK, -, hA⟩ := C
  intro H locs ls hH hS hl hc
  exact W.aret hx hb hr (Or.inl ⟨_, rfl⟩) hv (fun t ht hW => ⟨⟨_, I, P, rfl, hq, by rw [ht]; exact hH⟩, hS.F ht⟩) hS.2.2 d hlk
theorem g_vret {post : Option Value → wI → wP → Prop} (C : Cx K cc own nL none rm z) (hR : Rx K z O post) (d : decode cc pc = .ok (.return_, 1)) (hq : post none I P) : G K z I P O 0 0 pc L [] := by
  obtain ⟨p, l, e, R, s, m, args, below, meth, cd, Q, g, A⟩ := K
  obtain ⟨rfl, rfl⟩ := hR
  obtain ⟨hx, hb, hr, -, hown, hts, hlk, hK, -, hA⟩ := C
  intro H locs ls hH hS hl hc
  exact W.vret hx hb hr (fun t ht hW => ⟨⟨_, I, P, rfl, hq, by rw [ht]; exact hH⟩, hS.F ht⟩) hS.2.2 d hlk
theorem wV_good {own Cn : String} {index mxl : Nat} {y : MethodName} {bc : ByteArray} {rt : Option FieldType} (h : wV own index Cn y bc mxl rt) : GoodIn wAll (wsV own index Cn y (.code y bc mxl rt :: wAll)) := by
  obtain ⟨h1, h2, h3, h4, h5⟩ := h
  intro w hw
  have hm : w ∈ wAll := by
    unfold wsV at hw
    simp only [List.cons_append, List.nil_append, List.mem_cons] at hw
    rcases hw with rfl | rfl | rfl | rfl | rfl | hw
    · exact h1
    · exact h2
    · exact h3
    · exact h4
    · exact h5
    · exact hw
  exact wAll_self w hm
theorem wS_good {own : String} {index mxl : Nat} {y : MethodName} {bc : ByteArray} {rt : Option FieldType} (h : wS own index y bc mxl rt) : GoodIn wAll (va_wsS own index y (.code y bc mxl rt :: wAll)) := by
  obtain ⟨h1, h2, h3, h5⟩ := h
  intro w hw
  have hm : w ∈ wAll := by
    unfold va_wsS at hw
    simp only [List.cons_append, List.nil_append, List.mem_cons] at hw
    rcases hw with rfl | rfl | rfl | rfl | hw
    · exact h1
    · exact h2
    · exact h3
    · exact h5
    · exact hw
  exact wAll_self w hm
theorem wBlind {g : wG} {z : wZ} {I : wI} {P : wP} {O : wO} {args : List Value} : FrameBlind (va_Pc args (fun U => wHd g z I P O U.heap ∧ va_K g.1 vwCl (wTy g) U)) := fun a U f mk q => by
  obtain ⟨q0, q1, q2⟩ := q
  exact ⟨q0, q1, va_K.moved (u := U) (U := U.calling f mk a) (Vm.Alike.refl U.vm) q2⟩
theorem wA_in {g : wG} {z : wZ} {A : Nat → Prop} (hA : ∀ k i, wAl z k i → A (g.2.2 k i)) : ∀ q, wA g z q → A q := fun q h => by
  obtain ⟨k, i, h1, rfl⟩ := h
  exact hA k i h1
theorem g_run {p : Program} {l : Launch} {e : Env} {R : Room} {s : State} {m : MethodId} {args : Array Value} {below : List Frame} {meth : Method} {cd : Code} {H : Heap} {locs : List Loc} {cells slots : Nat} {Q : State → Prop} {g : wG} {A : Nat → Prop} {z : wZ} {O : wO} {ls : Array Slot} {a : Array Value} {st0 rest : List Value} {pc : Nat} {L : List (Nat × Value)} {post : Option Value → wI → wP → Prop} (hr : va_Run p l e R s m args below meth cd H locs cells slots 0 0 (F0 m pc ls st0) rest (rQ g z O post a) (wA g z)) (hS : va_S A s.heap H locs) (hA : ∀ q, wA g z q → A q) (hl : lv_has ls cd.maxLocals L) (hc : ∀ q ∈ L, q.2.category = 1)
    (kk : ∀ v I' P', post v I' P' → G (p, l, e, R, s, m, args, below, meth, cd, Q, g, A) z I' P' O cells slots (pc + 3) L (v.toList ++ rest)) : W p l e R s m args below meth cd H locs cells slots Q (F0 m pc ls st0) := by
  intro T hT X
  obtain ⟨v, st₀, t, T', L1, h0, X', hL, e1, e2, ⟨⟨v', I', P', hv, hpost, hHd⟩, hz, hk⟩, st⟩ := hr T hT X
  cases hv
  rw [h0] at hz hk
  obtain ⟨t2, a1, b1⟩ := kk v I' P' hpost T'.heap (locs ++ L1) ls (by rw [e1]; exact hHd) ⟨Nat.le_trans hS.1 (by rw [e1]; exact hz), fun q h1 h2 => by
      rw [e1, hk q (Nat.lt_of_lt_of_le h1 hS.1) (fun zz => h2 (hA q zz))]; exact hS.2.1 q h1 h2, fun q hq => by
      rcases List.mem_append.mp hq with h | h
      · exact hS.2.2 q h
      · exact hA _ (hL q h)⟩ hl hc T' rfl X'
  exact ⟨t2, st t2 a1, b1⟩
theorem g_callV (C : Cx K cc own nL ret rm z) {index mxl k i ci N : Nat} {y : MethodName} {bc : ByteArray} {rt : Option FieldType} {rmy : Room} {As S0 : List Value} {fs : List Value} {Cn : String} {T : u_T} {post : Option Value → wI → wP → Prop} (hw : wV own index Cn y bc mxl rt) (hM : RT (Kl K) y bc mxl rt rmy (Kg K) z (.ref ((Kg K).2.2 k i) :: As) I P O post) (d : decode cc pc = .ok (.invokevirtual index, 3)) (hal : wAl z k i) (he : wE (Kg K) (I k i) (P k i) O k i = .inr (ci, fs)) (hc : vwCl[ci]? = some (Cn, T, N))
    (hd : y.cls = Cn ∧ y.cls ≠ "java/lang/invoke/MethodHandle" ∧ y.cls ≠ "java/lang/invoke/VarHandle" ∧ (parseMethodDescriptor y.desc).map (fun d => d.parameters.length) = some As.length) (hroom : (rmy.frames + 1 ≤ rm.frames ∧ 8 + (mxl + 11) + rmy.locals ≤ rm.locals) ∧ rmy.cells = 0 ∧ rmy.slots = 0) (hS0 : S0 = As.reverse ++ .ref ((Kg K).2.2 k i) :: S) (hcat : (S.map fun v => v.category).sum ≤ 8) (hf : c ≤ rm.cells ∧ n ≤ rm.slots) (hp : pc + 3 = pc') (kk : ∀ v I' P', post v I' P' → G K z I' P' O c n pc' L (v.toList ++ S)) : G K z I P O c n pc L S0 := by
  subst hp
  subst hS0
  obtain ⟨p, l, e, R, s, m, args, below, meth, cd, Q, g, A⟩ := K
  obtain ⟨hx, hb, hr, hml, hown, hts, hlk, hK, rfl, hA⟩ := C
  intro H locs ls hH hS hl hcc
  have hP := cl_one (hH.1 k i hal)
  rw [show wE g (I k i) (P k i) O k i = _ from he] at hP
  refine g_run (va_runV (As := As) (rest := S) (nL := nL) ⟨hx, hb, hml, hown, hts⟩ hM (cwV As.length hts (wV_good hw) rfl hroom.2.1 hroom.2.2 hd hroom.1) ⟨wBlind, va_recv hK hP (ci := ci) (q0 := 0) hc rfl, fun U hU hW => ⟨rfl, by rw [hU]; exact hH, va_K.moved hW.alike hK⟩⟩ rfl rfl (hl.1.trans hml) rfl (lv_room hcat) d ⟨hf.1, hf.2⟩) hS (wA_in hA) hl hcc kk
theorem g_callS (C : Cx K cc own nL ret rm z) {index mxl : Nat} {y : MethodName} {bc : ByteArray} {rt : Option FieldType} {rmy : Room} {As S0 : List Value} {post : Option Value → wI → wP → Prop} (hw : wS own index y bc mxl rt) (hM : RT (Kl K) y bc mxl rt rmy (Kg K) z As I P O post) (d : decode cc pc = .ok (.invokestatic index, 3))
    (hd : y.cls = own ∧ y.cls ≠ "java/lang/invoke/MethodHandle" ∧ y.cls ≠ "java/lang/invoke/VarHandle" ∧ (parseMethodDescriptor y.desc).map (fun d => d.parameters.length) = some As.length) (hroom : (rmy.frames + 1 ≤ rm.frames ∧ 8 + (mxl + 11) + rmy.locals ≤ rm.locals) ∧ rmy.cells = 0 ∧ rmy.slots = 0) (hS0 : S0 = As.reverse ++ S) (hcat : (S.map fun v => v.category).sum ≤ 8) (hf : c ≤ rm.cells ∧ n ≤ rm.slots) (hp : pc + 3 = pc') (kk : ∀ v I' P', post v I' P' → G K z I' P' O c n pc' L (v.toList ++ S)) : G K z I P O c n pc L S0 := by
  subst hp
  subst hS0
  obtain ⟨p, l, e, R, s, m, args, below, meth, cd, Q, g, A⟩ := K
  obtain ⟨hx, hb, hr, hml, hown, hts, hlk, hK, rfl, hA⟩ := C
  intro H locs ls hH hS hl hcc
  refine g_run (va_runS (As := As) (rest := S) (nL := nL) ⟨hx, hb, hml, hown, hts⟩ hM (va_cwS As.length hts (wS_good hw) rfl hroom.2.1 hroom.2.2 hd.2 hroom.1) ⟨wBlind, fun U hU hW => ⟨rfl, by rw [hU]; exact hH, va_K.moved hW.alike hK⟩⟩ rfl rfl (hl.1.trans hml) rfl (lv_room hcat) d ⟨hf.1, hf.2⟩) hS (wA_in hA) hl hcc kk

end WRows2
end
section
section WFields
variable {K : wK} {cc : ByteArray} {own : String} {nL : Nat} {ret : Option FieldType} {rm : Room} {z : wZ} {I : wI} {P : wP} {O : wO} {c n pc pc' : Nat} {L : List (Nat × Value)} {S : List Value}
theorem al13 {z : wZ} {f : Nat} (h : Nat.blt 0 (wML f) = true) : wAl z 13 f := Nat.le_of_ble_eq_true h
theorem f_X1_9 (C : Cx K cc RX1 nL ret rm z) {i : Nat} (d : decode cc pc = .ok (.getfield 9, 3)) (hal : wAl z 1 i) (hp : pc + 3 = pc') (kk : G K z I P O c n pc' L (.int (I 1 i 0) :: S)) : G K z I P O c n pc L (.ref ((Kg K).2.2 1 i) :: S) := g_getf (f := 0) C d hal rfl rfl iX1 (Nat.le_of_ble_eq_true rfl) fl_X1_9 rfl rfl hp kk
theorem p_X1_9 (C : Cx K cc RX1 nL ret rm z) {i : Nat} {x : Int32} (d : decode cc pc = .ok (.putfield 9, 3)) (hal : wAl z 1 i) (hp : pc + 3 = pc') (kk : G K z (upI I 1 i 0 x) P O c n pc' L S) : G K z I P O c n pc L (.int x :: .ref ((Kg K).2.2 1 i) :: S) := g_putf (f := 0) C d hal rfl rfl iX1 tyX1_ok nmX1 (Nat.le_of_ble_eq_true rfl) fl_X1_9 rfl rfl (ty := .int) (tyX1_ok 0 (by decide)) rfl rfl (Nat.le_of_ble_eq_true rfl) rfl hp kk
theorem f_X3_61 (C : Cx K cc RX3 nL ret rm z) {i : Nat} (d : decode cc pc = .ok (.getfield 61, 3)) (hal : wAl z 1 i) (hp : pc + 3 = pc') (kk : G K z I P O c n pc' L (.int (I 1 i 0) :: S)) : G K z I P O c n pc L (.ref ((Kg K).2.2 1 i) :: S) := g_getf (f := 0) C d hal rfl rfl iX1 (Nat.le_of_ble_eq_true rfl) fl_X3_61 rfl rfl hp kk
theorem p_X3_61 (C : Cx K cc RX3 nL ret rm z) {i : Nat} {x : Int32} (d : decode cc pc = .ok (.putfield 61, 3)) (hal : wAl z 1 i) (hp : pc + 3 = pc') (kk : G K z (upI I 1 i 0 x) P O c n pc' L S) : G K z I P O c n pc L (.int x :: .ref ((Kg K).2.2 1 i) :: S) := g_putf (f := 0) C d hal rfl rfl iX1 tyX1_ok nmX1 (Nat.le_of_ble_eq_true rfl) fl_X3_61 rfl rfl (ty := .int) (tyX1_ok 0 (by decide)) rfl rfl (Nat.le_of_ble_eq_true rfl) rfl hp kk
theorem f_X1_15 (C : Cx K cc RX1 nL ret rm z) {i : Nat} (d : decode cc pc = .ok (.getfield 15, 3)) (hal : wAl z 1 i) (hp : pc + 3 = pc') (kk : G K z I P O c n pc' L (.int (I 1 i 1) :: S)) : G K z I P O c n pc L (.ref ((Kg K).2.2 1 i) :: S) := g_getf (f := 1) C d hal rfl rfl iX1 (Nat.le_of_ble_eq_true rfl) fl_X1_15 rfl rfl hp kk
theorem p_X1_15 (C : Cx K cc RX1 nL ret rm z) {i : Nat} {x : Int32} (d : decode cc pc = .ok (.putfield 15, 3)) (hal : wAl z 1 i) (hp : pc + 3 = pc') (kk : G K z (upI I 1 i 1 x) P O c n pc' L S) : G K z I P O c n pc L (.int x :: .ref ((Kg K).2.2 1 i) :: S) := g_putf (f := 1) C d hal rfl rfl iX1 tyX1_ok nmX1 (Nat.le_of_ble_eq_true rfl) fl_X1_15 rfl rfl (ty := .int) (tyX1_ok 1 (by decide)) rfl rfl (Nat.le_of_ble_eq_true rfl) rfl hp kk
theorem f_X3_58 (C : Cx K cc RX3 nL ret rm z) {i : Nat} (d : decode cc pc = .ok (.getfield 58, 3)) (hal : wAl z 1 i) (hp : pc + 3 = pc') (kk : G K z I P O c n pc' L (.int (I 1 i 1) :: S)) : G K z I P O c n pc L (.ref ((Kg K).2.2 1 i) :: S) := g_getf (f := 1) C d hal rfl rfl iX1 (Nat.le_of_ble_eq_true rfl) fl_X3_58 rfl rfl hp kk
theorem p_X3_58 (C : Cx K cc RX3 nL ret rm z) {i : Nat} {x : Int32} (d : decode cc pc = .ok (.putfield 58, 3)) (hal : wAl z 1 i) (hp : pc + 3 = pc') (kk : G K z (upI I 1 i 1 x) P O c n pc' L S) : G K z I P O c n pc L (.int x :: .ref ((Kg K).2.2 1 i) :: S) := g_putf (f := 1) C d hal rfl rfl iX1 tyX1_ok nmX1 (Nat.le_of_ble_eq_true rfl) fl_X3_58 rfl rfl (ty := .int) (tyX1_ok 1 (by decide)) rfl rfl (Nat.le_of_ble_eq_true rfl) rfl hp kk
theorem f_X1_18 (C : Cx K cc RX1 nL ret rm z) {i : Nat} (d : decode cc pc = .ok (.getfield 18, 3)) (hal : wAl z 1 i) (hp : pc + 3 = pc') (kk : G K z I P O c n pc' L (.ref ((Kg K).2.2 8 i) :: S)) : G K z I P O c n pc L (.ref ((Kg K).2.2 1 i) :: S) := g_getf (f := 2) C d hal rfl rfl iX1 (Nat.le_of_ble_eq_true rfl) fl_X1_18 rfl rfl hp kk
theorem f_X1_24 (C : Cx K cc RX1 nL ret rm z) {i : Nat} (d : decode cc pc = .ok (.getfield 24, 3)) (hal : wAl z 1 i) (hp : pc + 3 = pc') (kk : G K z I P O c n pc' L (.ref ((Kg K).2.2 9 i) :: S)) : G K z I P O c n pc L (.ref ((Kg K).2.2 1 i) :: S) := g_getf (f := 3) C d hal rfl rfl iX1 (Nat.le_of_ble_eq_true rfl) fl_X1_24 rfl rfl hp kk
theorem f_X1_28 (C : Cx K cc RX1 nL ret rm z) {i : Nat} (d : decode cc pc = .ok (.getfield 28, 3)) (hal : wAl z 1 i) (hp : pc + 3 = pc') (kk : G K z I P O c n pc' L (.ref ((Kg K).2.2 10 i) :: S)) : G K z I P O c n pc L (.ref ((Kg K).2.2 1 i) :: S) := g_getf (f := 4) C d hal rfl rfl iX1 (Nat.le_of_ble_eq_true rfl) fl_X1_28 rfl rfl hp kk
theorem f_X3_11 (C : Cx K cc RX3 nL ret rm z) {i : Nat} (d : decode cc pc = .ok (.getfield 11, 3)) (hal : wAl z 0 i) (hp : pc + 3 = pc') (kk : G K z I P O c n pc' L (.ref ((Kg K).2.2 4 0) :: S)) : G K z I P O c n pc L (.ref ((Kg K).2.2 0 i) :: S) := g_getf (f := 0) C d hal rfl rfl iX3 (Nat.le_of_ble_eq_true rfl) fl_X3_11 rfl rfl hp kk
theorem f_X3_15 (C : Cx K cc RX3 nL ret rm z) {i : Nat} (d : decode cc pc = .ok (.getfield 15, 3)) (hal : wAl z 0 i) (hp : pc + 3 = pc') (kk : G K z I P O c n pc' L (.ref ((Kg K).2.2 5 0) :: S)) : G K z I P O c n pc L (.ref ((Kg K).2.2 0 i) :: S) := g_getf (f := 1) C d hal rfl rfl iX3 (Nat.le_of_ble_eq_true rfl) fl_X3_15 rfl rfl hp kk
theorem f_X3_21 (C : Cx K cc RX3 nL ret rm z) {i : Nat} (d : decode cc pc = .ok (.getfield 21, 3)) (hal : wAl z 0 i) (hp : pc + 3 = pc') (kk : G K z I P O c n pc' L (.ref ((Kg K).2.2 6 0) :: S)) : G K z I P O c n pc L (.ref ((Kg K).2.2 0 i) :: S) := g_getf (f := 2) C d hal rfl rfl iX3 (Nat.le_of_ble_eq_true rfl) fl_X3_21 rfl rfl hp kk
theorem f_X3_27 (C : Cx K cc RX3 nL ret rm z) {i : Nat} (d : decode cc pc = .ok (.getfield 27, 3)) (hal : wAl z 0 i) (hp : pc + 3 = pc') (kk : G K z I P O c n pc' L (.ref ((Kg K).2.2 7 0) :: S)) : G K z I P O c n pc L (.ref ((Kg K).2.2 0 i) :: S) := g_getf (f := 3) C d hal rfl rfl iX3 (Nat.le_of_ble_eq_true rfl) fl_X3_27 rfl rfl hp kk
theorem f_X3_31 (C : Cx K cc RX3 nL ret rm z) {i : Nat} (d : decode cc pc = .ok (.getfield 31, 3)) (hal : wAl z 0 i) (hp : pc + 3 = pc') (kk : G K z I P O c n pc' L (.int (I 0 i 4) :: S)) : G K z I P O c n pc L (.ref ((Kg K).2.2 0 i) :: S) := g_getf (f := 4) C d hal rfl rfl iX3 (Nat.le_of_ble_eq_true rfl) fl_X3_31 rfl rfl hp kk
theorem p_X3_31 (C : Cx K cc RX3 nL ret rm z) {i : Nat} {x : Int32} (d : decode cc pc = .ok (.putfield 31, 3)) (hal : wAl z 0 i) (hp : pc + 3 = pc') (kk : G K z (upI I 0 i 4 x) P O c n pc' L S) : G K z I P O c n pc L (.int x :: .ref ((Kg K).2.2 0 i) :: S) := g_putf (f := 4) C d hal rfl rfl iX3 tyX3_ok nmX3 (Nat.le_of_ble_eq_true rfl) fl_X3_31 rfl rfl (ty := .int) (tyX3_ok 4 (by decide)) rfl rfl (Nat.le_of_ble_eq_true rfl) rfl hp kk
theorem f_X3_35 (C : Cx K cc RX3 nL ret rm z) {i : Nat} (d : decode cc pc = .ok (.getfield 35, 3)) (hal : wAl z 0 i) (hp : pc + 3 = pc') (kk : G K z I P O c n pc' L (.int (I 0 i 5) :: S)) : G K z I P O c n pc L (.ref ((Kg K).2.2 0 i) :: S) := g_getf (f := 5) C d hal rfl rfl iX3 (Nat.le_of_ble_eq_true rfl) fl_X3_35 rfl rfl hp kk
theorem p_X3_35 (C : Cx K cc RX3 nL ret rm z) {i : Nat} {x : Int32} (d : decode cc pc = .ok (.putfield 35, 3)) (hal : wAl z 0 i) (hp : pc + 3 = pc') (kk : G K z (upI I 0 i 5 x) P O c n pc' L S) : G K z I P O c n pc L (.int x :: .ref ((Kg K).2.2 0 i) :: S) := g_putf (f := 5) C d hal rfl rfl iX3 tyX3_ok nmX3 (Nat.le_of_ble_eq_true rfl) fl_X3_35 rfl rfl (ty := .int) (tyX3_ok 5 (by decide)) rfl rfl (Nat.le_of_ble_eq_true rfl) rfl hp kk
theorem f_X3_38 (C : Cx K cc RX3 nL ret rm z) {i : Nat} (d : decode cc pc = .ok (.getfield 38, 3)) (hal : wAl z 0 i) (hp : pc + 3 = pc') (kk : G K z I P O c n pc' L (.int (I 0 i 6) :: S)) : G K z I P O c n pc L (.ref ((Kg K).2.2 0 i) :: S) := g_getf (f := 6) C d hal rfl rfl iX3 (Nat.le_of_ble_eq_true rfl) fl_X3_38 rfl rfl hp kk
theorem p_X3_38 (C : Cx K cc RX3 nL ret rm z) {i : Nat} {x : Int32} (d : decode cc pc = .ok (.putfield 38, 3)) (hal : wAl z 0 i) (hp : pc + 3 = pc') (kk : G K z (upI I 0 i 6 x) P O c n pc' L S) : G K z I P O c n pc L (.int x :: .ref ((Kg K).2.2 0 i) :: S) := g_putf (f := 6) C d hal rfl rfl iX3 tyX3_ok nmX3 (Nat.le_of_ble_eq_true rfl) fl_X3_38 rfl rfl (ty := .int) (tyX3_ok 6 (by decide)) rfl rfl (Nat.le_of_ble_eq_true rfl) rfl hp kk
theorem f_X2_18 (C : Cx K cc RX2 nL ret rm z) {i : Nat} (d : decode cc pc = .ok (.getfield 18, 3)) (hal : wAl z 2 i) (hp : pc + 3 = pc') (kk : G K z I P O c n pc' L (.int (I 2 i 0) :: S)) : G K z I P O c n pc L (.ref ((Kg K).2.2 2 i) :: S) := g_getf (f := 0) C d hal rfl rfl iX2 (Nat.le_of_ble_eq_true rfl) fl_X2_18 rfl rfl hp kk
theorem f_X3_92 (C : Cx K cc RX3 nL ret rm z) {i : Nat} (d : decode cc pc = .ok (.getfield 92, 3)) (hal : wAl z 2 i) (hp : pc + 3 = pc') (kk : G K z I P O c n pc' L (.int (I 2 i 0) :: S)) : G K z I P O c n pc L (.ref ((Kg K).2.2 2 i) :: S) := g_getf (f := 0) C d hal rfl rfl iX2 (Nat.le_of_ble_eq_true rfl) fl_X3_92 rfl rfl hp kk
theorem f_X2_21 (C : Cx K cc RX2 nL ret rm z) {i : Nat} (d : decode cc pc = .ok (.getfield 21, 3)) (hal : wAl z 2 i) (hp : pc + 3 = pc') (kk : G K z I P O c n pc' L (.int (I 2 i 1) :: S)) : G K z I P O c n pc L (.ref ((Kg K).2.2 2 i) :: S) := g_getf (f := 1) C d hal rfl rfl iX2 (Nat.le_of_ble_eq_true rfl) fl_X2_21 rfl rfl hp kk
theorem f_X0_45 (C : Cx K cc RX0 nL ret rm z) {i : Nat} (d : decode cc pc = .ok (.getfield 45, 3)) (hal : wAl z 2 i) (hp : pc + 3 = pc') (kk : G K z I P O c n pc' L (.int (I 2 i 1) :: S)) : G K z I P O c n pc L (.ref ((Kg K).2.2 2 i) :: S) := g_getf (f := 1) C d hal rfl rfl iX2 (Nat.le_of_ble_eq_true rfl) fl_X0_45 rfl rfl hp kk
theorem f_X3_224 (C : Cx K cc RX3 nL ret rm z) {i : Nat} (d : decode cc pc = .ok (.getfield 224, 3)) (hal : wAl z 2 i) (hp : pc + 3 = pc') (kk : G K z I P O c n pc' L (.int (I 2 i 1) :: S)) : G K z I P O c n pc L (.ref ((Kg K).2.2 2 i) :: S) := g_getf (f := 1) C d hal rfl rfl iX2 (Nat.le_of_ble_eq_true rfl) fl_X3_224 rfl rfl hp kk
theorem f_X2_24 (C : Cx K cc RX2 nL ret rm z) {i : Nat} (d : decode cc pc = .ok (.getfield 24, 3)) (hal : wAl z 2 i) (hp : pc + 3 = pc') (kk : G K z I P O c n pc' L (.int (I 2 i 2) :: S)) : G K z I P O c n pc L (.ref ((Kg K).2.2 2 i) :: S) := g_getf (f := 2) C d hal rfl rfl iX2 (Nat.le_of_ble_eq_true rfl) fl_X2_24 rfl rfl hp kk
theorem f_X0_58 (C : Cx K cc RX0 nL ret rm z) {i : Nat} (d : decode cc pc = .ok (.getfield 58, 3)) (hal : wAl z 2 i) (hp : pc + 3 = pc') (kk : G K z I P O c n pc' L (.int (I 2 i 2) :: S)) : G K z I P O c n pc L (.ref ((Kg K).2.2 2 i) :: S) := g_getf (f := 2) C d hal rfl rfl iX2 (Nat.le_of_ble_eq_true rfl) fl_X0_58 rfl rfl hp kk
theorem f_X3_227 (C : Cx K cc RX3 nL ret rm z) {i : Nat} (d : decode cc pc = .ok (.getfield 227, 3)) (hal : wAl z 2 i) (hp : pc + 3 = pc') (kk : G K z I P O c n pc' L (.int (I 2 i 2) :: S)) : G K z I P O c n pc L (.ref ((Kg K).2.2 2 i) :: S) := g_getf (f := 2) C d hal rfl rfl iX2 (Nat.le_of_ble_eq_true rfl) fl_X3_227 rfl rfl hp kk
theorem f_X2_27 (C : Cx K cc RX2 nL ret rm z) {i : Nat} (d : decode cc pc = .ok (.getfield 27, 3)) (hal : wAl z 2 i) (hp : pc + 3 = pc') (kk : G K z I P O c n pc' L (.int (I 2 i 3) :: S)) : G K z I P O c n pc L (.ref ((Kg K).2.2 2 i) :: S) := g_getf (f := 3) C d hal rfl rfl iX2 (Nat.le_of_ble_eq_true rfl) fl_X2_27 rfl rfl hp kk
theorem f_X0_61 (C : Cx K cc RX0 nL ret rm z) {i : Nat} (d : decode cc pc = .ok (.getfield 61, 3)) (hal : wAl z 2 i) (hp : pc + 3 = pc') (kk : G K z I P O c n pc' L (.int (I 2 i 3) :: S)) : G K z I P O c n pc L (.ref ((Kg K).2.2 2 i) :: S) := g_getf (f := 3) C d hal rfl rfl iX2 (Nat.le_of_ble_eq_true rfl) fl_X0_61 rfl rfl hp kk
theorem f_X3_230 (C : Cx K cc RX3 nL ret rm z) {i : Nat} (d : decode cc pc = .ok (.getfield 230, 3)) (hal : wAl z 2 i) (hp : pc + 3 = pc') (kk : G K z I P O c n pc' L (.int (I 2 i 3) :: S)) : G K z I P O c n pc L (.ref ((Kg K).2.2 2 i) :: S) := g_getf (f := 3) C d hal rfl rfl iX2 (Nat.le_of_ble_eq_true rfl) fl_X3_230 rfl rfl hp kk
theorem f_X2_30 (C : Cx K cc RX2 nL ret rm z) {i : Nat} (d : decode cc pc = .ok (.getfield 30, 3)) (hal : wAl z 2 i) (hp : pc + 3 = pc') (kk : G K z I P O c n pc' L (.int (I 2 i 4) :: S)) : G K z I P O c n pc L (.ref ((Kg K).2.2 2 i) :: S) := g_getf (f := 4) C d hal rfl rfl iX2 (Nat.le_of_ble_eq_true rfl) fl_X2_30 rfl rfl hp kk
theorem f_X3_233 (C : Cx K cc RX3 nL ret rm z) {i : Nat} (d : decode cc pc = .ok (.getfield 233, 3)) (hal : wAl z 2 i) (hp : pc + 3 = pc') (kk : G K z I P O c n pc' L (.int (I 2 i 4) :: S)) : G K z I P O c n pc L (.ref ((Kg K).2.2 2 i) :: S) := g_getf (f := 4) C d hal rfl rfl iX2 (Nat.le_of_ble_eq_true rfl) fl_X3_233 rfl rfl hp kk
theorem f_X2_9 (C : Cx K cc RX2 nL ret rm z) {i : Nat} (d : decode cc pc = .ok (.getfield 9, 3)) (hal : wAl z 2 i) (hp : pc + 3 = pc') (kk : G K z I P O c n pc' L (.int (I 2 i 5) :: S)) : G K z I P O c n pc L (.ref ((Kg K).2.2 2 i) :: S) := g_getf (f := 5) C d hal rfl rfl iX2 (Nat.le_of_ble_eq_true rfl) fl_X2_9 rfl rfl hp kk
theorem p_X2_9 (C : Cx K cc RX2 nL ret rm z) {i : Nat} {x : Int32} (d : decode cc pc = .ok (.putfield 9, 3)) (hal : wAl z 2 i) (hp : pc + 3 = pc') (kk : G K z (upI I 2 i 5 x) P O c n pc' L S) : G K z I P O c n pc L (.int x :: .ref ((Kg K).2.2 2 i) :: S) := g_putf (f := 5) C d hal rfl rfl iX2 tyX2_ok nmX2 (Nat.le_of_ble_eq_true rfl) fl_X2_9 rfl rfl (ty := .int) (tyX2_ok 5 (by decide)) rfl rfl (Nat.le_of_ble_eq_true rfl) rfl hp kk
theorem f_X3_103 (C : Cx K cc RX3 nL ret rm z) {i : Nat} (d : decode cc pc = .ok (.getfield 103, 3)) (hal : wAl z 2 i) (hp : pc + 3 = pc') (kk : G K z I P O c n pc' L (.int (I 2 i 5) :: S)) : G K z I P O c n pc L (.ref ((Kg K).2.2 2 i) :: S) := g_getf (f := 5) C d hal rfl rfl iX2 (Nat.le_of_ble_eq_true rfl) fl_X3_103 rfl rfl hp kk
theorem p_X3_103 (C : Cx K cc RX3 nL ret rm z) {i : Nat} {x : Int32} (d : decode cc pc = .ok (.putfield 103, 3)) (hal : wAl z 2 i) (hp : pc + 3 = pc') (kk : G K z (upI I 2 i 5 x) P O c n pc' L S) : G K z I P O c n pc L (.int x :: .ref ((Kg K).2.2 2 i) :: S) := g_putf (f := 5) C d hal rfl rfl iX2 tyX2_ok nmX2 (Nat.le_of_ble_eq_true rfl) fl_X3_103 rfl rfl (ty := .int) (tyX2_ok 5 (by decide)) rfl rfl (Nat.le_of_ble_eq_true rfl) rfl hp kk
theorem f_X0_68 (C : Cx K cc RX0 nL ret rm z) {i : Nat} (d : decode cc pc = .ok (.getfield 68, 3)) (hal : wAl z 2 i) (hp : pc + 3 = pc') (kk : G K z I P O c n pc' L (.int (I 2 i 5) :: S)) : G K z I P O c n pc L (.ref ((Kg K).2.2 2 i) :: S) := g_getf (f := 5) C d hal rfl rfl iX2 (Nat.le_of_ble_eq_true rfl) fl_X0_68 rfl rfl hp kk
theorem p_X0_68 (C : Cx K cc RX0 nL ret rm z) {i : Nat} {x : Int32} (d : decode cc pc = .ok (.putfield 68, 3)) (hal : wAl z 2 i) (hp : pc + 3 = pc') (kk : G K z (upI I 2 i 5 x) P O c n pc' L S) : G K z I P O c n pc L (.int x :: .ref ((Kg K).2.2 2 i) :: S) := g_putf (f := 5) C d hal rfl rfl iX2 tyX2_ok nmX2 (Nat.le_of_ble_eq_true rfl) fl_X0_68 rfl rfl (ty := .int) (tyX2_ok 5 (by decide)) rfl rfl (Nat.le_of_ble_eq_true rfl) rfl hp kk
theorem f_X2_15 (C : Cx K cc RX2 nL ret rm z) {i : Nat} (d : decode cc pc = .ok (.getfield 15, 3)) (hal : wAl z 2 i) (hp : pc + 3 = pc') (kk : G K z I P O c n pc' L (.int (I 2 i 6) :: S)) : G K z I P O c n pc L (.ref ((Kg K).2.2 2 i) :: S) := g_getf (f := 6) C d hal rfl rfl iX2 (Nat.le_of_ble_eq_true rfl) fl_X2_15 rfl rfl hp kk
theorem p_X2_15 (C : Cx K cc RX2 nL ret rm z) {i : Nat} {x : Int32} (d : decode cc pc = .ok (.putfield 15, 3)) (hal : wAl z 2 i) (hp : pc + 3 = pc') (kk : G K z (upI I 2 i 6 x) P O c n pc' L S) : G K z I P O c n pc L (.int x :: .ref ((Kg K).2.2 2 i) :: S) := g_putf (f := 6) C d hal rfl rfl iX2 tyX2_ok nmX2 (Nat.le_of_ble_eq_true rfl) fl_X2_15 rfl rfl (ty := .int) (tyX2_ok 6 (by decide)) rfl rfl (Nat.le_of_ble_eq_true rfl) rfl hp kk
theorem f_X3_85 (C : Cx K cc RX3 nL ret rm z) {i : Nat} (d : decode cc pc = .ok (.getfield 85, 3)) (hal : wAl z 2 i) (hp : pc + 3 = pc') (kk : G K z I P O c n pc' L (.int (I 2 i 6) :: S)) : G K z I P O c n pc L (.ref ((Kg K).2.2 2 i) :: S) := g_getf (f := 6) C d hal rfl rfl iX2 (Nat.le_of_ble_eq_true rfl) fl_X3_85 rfl rfl hp kk
theorem p_X3_85 (C : Cx K cc RX3 nL ret rm z) {i : Nat} {x : Int32} (d : decode cc pc = .ok (.putfield 85, 3)) (hal : wAl z 2 i) (hp : pc + 3 = pc') (kk : G K z (upI I 2 i 6 x) P O c n pc' L S) : G K z I P O c n pc L (.int x :: .ref ((Kg K).2.2 2 i) :: S) := g_putf (f := 6) C d hal rfl rfl iX2 tyX2_ok nmX2 (Nat.le_of_ble_eq_true rfl) fl_X3_85 rfl rfl (ty := .int) (tyX2_ok 6 (by decide)) rfl rfl (Nat.le_of_ble_eq_true rfl) rfl hp kk
theorem f_X1_39 (C : Cx K cc RX1 nL ret rm z) {i : Nat} (d : decode cc pc = .ok (.getfield 39, 3)) (hal : wAl z 2 i) (hp : pc + 3 = pc') (kk : G K z I P O c n pc' L (.int (I 2 i 6) :: S)) : G K z I P O c n pc L (.ref ((Kg K).2.2 2 i) :: S) := g_getf (f := 6) C d hal rfl rfl iX2 (Nat.le_of_ble_eq_true rfl) fl_X1_39 rfl rfl hp kk
theorem p_X1_39 (C : Cx K cc RX1 nL ret rm z) {i : Nat} {x : Int32} (d : decode cc pc = .ok (.putfield 39, 3)) (hal : wAl z 2 i) (hp : pc + 3 = pc') (kk : G K z (upI I 2 i 6 x) P O c n pc' L S) : G K z I P O c n pc L (.int x :: .ref ((Kg K).2.2 2 i) :: S) := g_putf (f := 6) C d hal rfl rfl iX2 tyX2_ok nmX2 (Nat.le_of_ble_eq_true rfl) fl_X1_39 rfl rfl (ty := .int) (tyX2_ok 6 (by decide)) rfl rfl (Nat.le_of_ble_eq_true rfl) rfl hp kk
theorem f_X2_33 (C : Cx K cc RX2 nL ret rm z) {i : Nat} (d : decode cc pc = .ok (.getfield 33, 3)) (hal : wAl z 2 i) (hp : pc + 3 = pc') (kk : G K z I P O c n pc' L (.int (I 2 i 7) :: S)) : G K z I P O c n pc L (.ref ((Kg K).2.2 2 i) :: S) := g_getf (f := 7) C d hal rfl rfl iX2 (Nat.le_of_ble_eq_true rfl) fl_X2_33 rfl rfl hp kk
theorem p_X2_33 (C : Cx K cc RX2 nL ret rm z) {i : Nat} {x : Int32} (d : decode cc pc = .ok (.putfield 33, 3)) (hal : wAl z 2 i) (hp : pc + 3 = pc') (kk : G K z (upI I 2 i 7 x) P O c n pc' L S) : G K z I P O c n pc L (.int x :: .ref ((Kg K).2.2 2 i) :: S) := g_putf (f := 7) C d hal rfl rfl iX2 tyX2_ok nmX2 (Nat.le_of_ble_eq_true rfl) fl_X2_33 rfl rfl (ty := .int) (tyX2_ok 7 (by decide)) rfl rfl (Nat.le_of_ble_eq_true rfl) rfl hp kk
theorem f_X3_116 (C : Cx K cc RX3 nL ret rm z) {i : Nat} (d : decode cc pc = .ok (.getfield 116, 3)) (hal : wAl z 2 i) (hp : pc + 3 = pc') (kk : G K z I P O c n pc' L (.int (I 2 i 7) :: S)) : G K z I P O c n pc L (.ref ((Kg K).2.2 2 i) :: S) := g_getf (f := 7) C d hal rfl rfl iX2 (Nat.le_of_ble_eq_true rfl) fl_X3_116 rfl rfl hp kk
theorem p_X3_116 (C : Cx K cc RX3 nL ret rm z) {i : Nat} {x : Int32} (d : decode cc pc = .ok (.putfield 116, 3)) (hal : wAl z 2 i) (hp : pc + 3 = pc') (kk : G K z (upI I 2 i 7 x) P O c n pc' L S) : G K z I P O c n pc L (.int x :: .ref ((Kg K).2.2 2 i) :: S) := g_putf (f := 7) C d hal rfl rfl iX2 tyX2_ok nmX2 (Nat.le_of_ble_eq_true rfl) fl_X3_116 rfl rfl (ty := .int) (tyX2_ok 7 (by decide)) rfl rfl (Nat.le_of_ble_eq_true rfl) rfl hp kk
theorem f_X0_35 (C : Cx K cc RX0 nL ret rm z) {i : Nat} (d : decode cc pc = .ok (.getfield 35, 3)) (hal : wAl z 3 i) (hp : pc + 3 = pc') (kk : G K z I P O c n pc' L (.int (I 3 i 0) :: S)) : G K z I P O c n pc L (.ref ((Kg K).2.2 3 i) :: S) := g_getf (f := 0) C d hal rfl rfl iX0 (Nat.le_of_ble_eq_true rfl) fl_X0_35 rfl rfl hp kk
theorem f_X3_148 (C : Cx K cc RX3 nL ret rm z) {i : Nat} (d : decode cc pc = .ok (.getfield 148, 3)) (hal : wAl z 3 i) (hp : pc + 3 = pc') (kk : G K z I P O c n pc' L (.int (I 3 i 0) :: S)) : G K z I P O c n pc L (.ref ((Kg K).2.2 3 i) :: S) := g_getf (f := 0) C d hal rfl rfl iX0 (Nat.le_of_ble_eq_true rfl) fl_X3_148 rfl rfl hp kk
theorem f_X0_38 (C : Cx K cc RX0 nL ret rm z) {i : Nat} {m : Nat} (hm : P 3 i 1 = some m) (d : decode cc pc = .ok (.getfield 38, 3)) (hal : wAl z 3 i) (hp : pc + 3 = pc') (kk : G K z I P O c n pc' L (.ref ((Kg K).2.2 2 m) :: S)) : G K z I P O c n pc L (.ref ((Kg K).2.2 3 i) :: S) := g_getf (f := 1) C d hal rfl rfl iX0 (Nat.le_of_ble_eq_true rfl) fl_X0_38 rfl (by rw [hm]; rfl) hp kk
theorem f_X3_161 (C : Cx K cc RX3 nL ret rm z) {i : Nat} {m : Nat} (hm : P 3 i 1 = some m) (d : decode cc pc = .ok (.getfield 161, 3)) (hal : wAl z 3 i) (hp : pc + 3 = pc') (kk : G K z I P O c n pc' L (.ref ((Kg K).2.2 2 m) :: S)) : G K z I P O c n pc L (.ref ((Kg K).2.2 3 i) :: S) := g_getf (f := 1) C d hal rfl rfl iX0 (Nat.le_of_ble_eq_true rfl) fl_X3_161 rfl (by rw [hm]; rfl) hp kk
theorem f_X0_42 (C : Cx K cc RX0 nL ret rm z) {i : Nat} (d : decode cc pc = .ok (.getfield 42, 3)) (hal : wAl z 3 i) (hp : pc + 3 = pc') (kk : G K z I P O c n pc' L (.int (I 3 i 2) :: S)) : G K z I P O c n pc L (.ref ((Kg K).2.2 3 i) :: S) := g_getf (f := 2) C d hal rfl rfl iX0 (Nat.le_of_ble_eq_true rfl) fl_X0_42 rfl rfl hp kk
theorem f_X3_167 (C : Cx K cc RX3 nL ret rm z) {i : Nat} (d : decode cc pc = .ok (.getfield 167, 3)) (hal : wAl z 3 i) (hp : pc + 3 = pc') (kk : G K z I P O c n pc' L (.int (I 3 i 2) :: S)) : G K z I P O c n pc L (.ref ((Kg K).2.2 3 i) :: S) := g_getf (f := 2) C d hal rfl rfl iX0 (Nat.le_of_ble_eq_true rfl) fl_X3_167 rfl rfl hp kk
theorem f_X0_9 (C : Cx K cc RX0 nL ret rm z) {i : Nat} (d : decode cc pc = .ok (.getfield 9, 3)) (hal : wAl z 3 i) (hp : pc + 3 = pc') (kk : G K z I P O c n pc' L (.ref ((Kg K).2.2 11 i) :: S)) : G K z I P O c n pc L (.ref ((Kg K).2.2 3 i) :: S) := g_getf (f := 3) C d hal rfl rfl iX0 (Nat.le_of_ble_eq_true rfl) fl_X0_9 rfl rfl hp kk
theorem f_X3_268 (C : Cx K cc RX3 nL ret rm z) {i : Nat} (d : decode cc pc = .ok (.getfield 268, 3)) (hal : wAl z 3 i) (hp : pc + 3 = pc') (kk : G K z I P O c n pc' L (.ref ((Kg K).2.2 11 i) :: S)) : G K z I P O c n pc L (.ref ((Kg K).2.2 3 i) :: S) := g_getf (f := 3) C d hal rfl rfl iX0 (Nat.le_of_ble_eq_true rfl) fl_X3_268 rfl rfl hp kk
theorem f_X0_15 (C : Cx K cc RX0 nL ret rm z) {i : Nat} (d : decode cc pc = .ok (.getfield 15, 3)) (hal : wAl z 3 i) (hp : pc + 3 = pc') (kk : G K z I P O c n pc' L (.int (I 3 i 4) :: S)) : G K z I P O c n pc L (.ref ((Kg K).2.2 3 i) :: S) := g_getf (f := 4) C d hal rfl rfl iX0 (Nat.le_of_ble_eq_true rfl) fl_X0_15 rfl rfl hp kk
theorem p_X0_15 (C : Cx K cc RX0 nL ret rm z) {i : Nat} {x : Int32} (d : decode cc pc = .ok (.putfield 15, 3)) (hal : wAl z 3 i) (hp : pc + 3 = pc') (kk : G K z (upI I 3 i 4 x) P O c n pc' L S) : G K z I P O c n pc L (.int x :: .ref ((Kg K).2.2 3 i) :: S) := g_putf (f := 4) C d hal rfl rfl iX0 tyX0_ok nmX0 (Nat.le_of_ble_eq_true rfl) fl_X0_15 rfl rfl (ty := .int) (tyX0_ok 4 (by decide)) rfl rfl (Nat.le_of_ble_eq_true rfl) rfl hp kk
theorem f_X3_178 (C : Cx K cc RX3 nL ret rm z) {i : Nat} (d : decode cc pc = .ok (.getfield 178, 3)) (hal : wAl z 3 i) (hp : pc + 3 = pc') (kk : G K z I P O c n pc' L (.int (I 3 i 4) :: S)) : G K z I P O c n pc L (.ref ((Kg K).2.2 3 i) :: S) := g_getf (f := 4) C d hal rfl rfl iX0 (Nat.le_of_ble_eq_true rfl) fl_X3_178 rfl rfl hp kk
theorem p_X3_178 (C : Cx K cc RX3 nL ret rm z) {i : Nat} {x : Int32} (d : decode cc pc = .ok (.putfield 178, 3)) (hal : wAl z 3 i) (hp : pc + 3 = pc') (kk : G K z (upI I 3 i 4 x) P O c n pc' L S) : G K z I P O c n pc L (.int x :: .ref ((Kg K).2.2 3 i) :: S) := g_putf (f := 4) C d hal rfl rfl iX0 tyX0_ok nmX0 (Nat.le_of_ble_eq_true rfl) fl_X3_178 rfl rfl (ty := .int) (tyX0_ok 4 (by decide)) rfl rfl (Nat.le_of_ble_eq_true rfl) rfl hp kk
theorem f_X0_19 (C : Cx K cc RX0 nL ret rm z) {i : Nat} (d : decode cc pc = .ok (.getfield 19, 3)) (hal : wAl z 3 i) (hp : pc + 3 = pc') (kk : G K z I P O c n pc' L (.int (I 3 i 5) :: S)) : G K z I P O c n pc L (.ref ((Kg K).2.2 3 i) :: S) := g_getf (f := 5) C d hal rfl rfl iX0 (Nat.le_of_ble_eq_true rfl) fl_X0_19 rfl rfl hp kk
theorem p_X0_19 (C : Cx K cc RX0 nL ret rm z) {i : Nat} {x : Int32} (d : decode cc pc = .ok (.putfield 19, 3)) (hal : wAl z 3 i) (hp : pc + 3 = pc') (kk : G K z (upI I 3 i 5 x) P O c n pc' L S) : G K z I P O c n pc L (.int x :: .ref ((Kg K).2.2 3 i) :: S) := g_putf (f := 5) C d hal rfl rfl iX0 tyX0_ok nmX0 (Nat.le_of_ble_eq_true rfl) fl_X0_19 rfl rfl (ty := .int) (tyX0_ok 5 (by decide)) rfl rfl (Nat.le_of_ble_eq_true rfl) rfl hp kk
theorem f_X3_239 (C : Cx K cc RX3 nL ret rm z) {i : Nat} (d : decode cc pc = .ok (.getfield 239, 3)) (hal : wAl z 3 i) (hp : pc + 3 = pc') (kk : G K z I P O c n pc' L (.int (I 3 i 5) :: S)) : G K z I P O c n pc L (.ref ((Kg K).2.2 3 i) :: S) := g_getf (f := 5) C d hal rfl rfl iX0 (Nat.le_of_ble_eq_true rfl) fl_X3_239 rfl rfl hp kk
theorem p_X3_239 (C : Cx K cc RX3 nL ret rm z) {i : Nat} {x : Int32} (d : decode cc pc = .ok (.putfield 239, 3)) (hal : wAl z 3 i) (hp : pc + 3 = pc') (kk : G K z (upI I 3 i 5 x) P O c n pc' L S) : G K z I P O c n pc L (.int x :: .ref ((Kg K).2.2 3 i) :: S) := g_putf (f := 5) C d hal rfl rfl iX0 tyX0_ok nmX0 (Nat.le_of_ble_eq_true rfl) fl_X3_239 rfl rfl (ty := .int) (tyX0_ok 5 (by decide)) rfl rfl (Nat.le_of_ble_eq_true rfl) rfl hp kk
theorem f_X0_22 (C : Cx K cc RX0 nL ret rm z) {i : Nat} (d : decode cc pc = .ok (.getfield 22, 3)) (hal : wAl z 3 i) (hp : pc + 3 = pc') (kk : G K z I P O c n pc' L (.int (I 3 i 6) :: S)) : G K z I P O c n pc L (.ref ((Kg K).2.2 3 i) :: S) := g_getf (f := 6) C d hal rfl rfl iX0 (Nat.le_of_ble_eq_true rfl) fl_X0_22 rfl rfl hp kk
theorem p_X0_22 (C : Cx K cc RX0 nL ret rm z) {i : Nat} {x : Int32} (d : decode cc pc = .ok (.putfield 22, 3)) (hal : wAl z 3 i) (hp : pc + 3 = pc') (kk : G K z (upI I 3 i 6 x) P O c n pc' L S) : G K z I P O c n pc L (.int x :: .ref ((Kg K).2.2 3 i) :: S) := g_putf (f := 6) C d hal rfl rfl iX0 tyX0_ok nmX0 (Nat.le_of_ble_eq_true rfl) fl_X0_22 rfl rfl (ty := .int) (tyX0_ok 6 (by decide)) rfl rfl (Nat.le_of_ble_eq_true rfl) rfl hp kk
theorem f_X3_242 (C : Cx K cc RX3 nL ret rm z) {i : Nat} (d : decode cc pc = .ok (.getfield 242, 3)) (hal : wAl z 3 i) (hp : pc + 3 = pc') (kk : G K z I P O c n pc' L (.int (I 3 i 6) :: S)) : G K z I P O c n pc L (.ref ((Kg K).2.2 3 i) :: S) := g_getf (f := 6) C d hal rfl rfl iX0 (Nat.le_of_ble_eq_true rfl) fl_X3_242 rfl rfl hp kk
theorem p_X3_242 (C : Cx K cc RX3 nL ret rm z) {i : Nat} {x : Int32} (d : decode cc pc = .ok (.putfield 242, 3)) (hal : wAl z 3 i) (hp : pc + 3 = pc') (kk : G K z (upI I 3 i 6 x) P O c n pc' L S) : G K z I P O c n pc L (.int x :: .ref ((Kg K).2.2 3 i) :: S) := g_putf (f := 6) C d hal rfl rfl iX0 tyX0_ok nmX0 (Nat.le_of_ble_eq_true rfl) fl_X3_242 rfl rfl (ty := .int) (tyX0_ok 6 (by decide)) rfl rfl (Nat.le_of_ble_eq_true rfl) rfl hp kk
theorem f_X0_25 (C : Cx K cc RX0 nL ret rm z) {i : Nat} (d : decode cc pc = .ok (.getfield 25, 3)) (hal : wAl z 3 i) (hp : pc + 3 = pc') (kk : G K z I P O c n pc' L (.int (I 3 i 7) :: S)) : G K z I P O c n pc L (.ref ((Kg K).2.2 3 i) :: S) := g_getf (f := 7) C d hal rfl rfl iX0 (Nat.le_of_ble_eq_true rfl) fl_X0_25 rfl rfl hp kk
theorem p_X0_25 (C : Cx K cc RX0 nL ret rm z) {i : Nat} {x : Int32} (d : decode cc pc = .ok (.putfield 25, 3)) (hal : wAl z 3 i) (hp : pc + 3 = pc') (kk : G K z (upI I 3 i 7 x) P O c n pc' L S) : G K z I P O c n pc L (.int x :: .ref ((Kg K).2.2 3 i) :: S) := g_putf (f := 7) C d hal rfl rfl iX0 tyX0_ok nmX0 (Nat.le_of_ble_eq_true rfl) fl_X0_25 rfl rfl (ty := .int) (tyX0_ok 7 (by decide)) rfl rfl (Nat.le_of_ble_eq_true rfl) rfl hp kk
theorem f_X3_189 (C : Cx K cc RX3 nL ret rm z) {i : Nat} (d : decode cc pc = .ok (.getfield 189, 3)) (hal : wAl z 3 i) (hp : pc + 3 = pc') (kk : G K z I P O c n pc' L (.int (I 3 i 7) :: S)) : G K z I P O c n pc L (.ref ((Kg K).2.2 3 i) :: S) := g_getf (f := 7) C d hal rfl rfl iX0 (Nat.le_of_ble_eq_true rfl) fl_X3_189 rfl rfl hp kk
theorem p_X3_189 (C : Cx K cc RX3 nL ret rm z) {i : Nat} {x : Int32} (d : decode cc pc = .ok (.putfield 189, 3)) (hal : wAl z 3 i) (hp : pc + 3 = pc') (kk : G K z (upI I 3 i 7 x) P O c n pc' L S) : G K z I P O c n pc L (.int x :: .ref ((Kg K).2.2 3 i) :: S) := g_putf (f := 7) C d hal rfl rfl iX0 tyX0_ok nmX0 (Nat.le_of_ble_eq_true rfl) fl_X3_189 rfl rfl (ty := .int) (tyX0_ok 7 (by decide)) rfl rfl (Nat.le_of_ble_eq_true rfl) rfl hp kk
theorem f_X0_28 (C : Cx K cc RX0 nL ret rm z) {i : Nat} (d : decode cc pc = .ok (.getfield 28, 3)) (hal : wAl z 3 i) (hp : pc + 3 = pc') (kk : G K z I P O c n pc' L (.int (I 3 i 8) :: S)) : G K z I P O c n pc L (.ref ((Kg K).2.2 3 i) :: S) := g_getf (f := 8) C d hal rfl rfl iX0 (Nat.le_of_ble_eq_true rfl) fl_X0_28 rfl rfl hp kk
theorem p_X0_28 (C : Cx K cc RX0 nL ret rm z) {i : Nat} {x : Int32} (d : decode cc pc = .ok (.putfield 28, 3)) (hal : wAl z 3 i) (hb : narrow .boolean (.int x) = .int x) (hf : fits .boolean (.int x) = true) (hp : pc + 3 = pc') (kk : G K z (upI I 3 i 8 x) P O c n pc' L S) : G K z I P O c n pc L (.int x :: .ref ((Kg K).2.2 3 i) :: S) := g_putf (f := 8) C d hal rfl rfl iX0 tyX0_ok nmX0 (Nat.le_of_ble_eq_true rfl) fl_X0_28 rfl rfl (ty := .boolean) (tyX0_ok 8 (by decide)) hb hf (Nat.le_of_ble_eq_true rfl) rfl hp kk
theorem f_X0_32 (C : Cx K cc RX0 nL ret rm z) {i : Nat} (d : decode cc pc = .ok (.getfield 32, 3)) (hal : wAl z 3 i) (hp : pc + 3 = pc') (kk : G K z I P O c n pc' L (.int (I 3 i 9) :: S)) : G K z I P O c n pc L (.ref ((Kg K).2.2 3 i) :: S) := g_getf (f := 9) C d hal rfl rfl iX0 (Nat.le_of_ble_eq_true rfl) fl_X0_32 rfl rfl hp kk
theorem p_X0_32 (C : Cx K cc RX0 nL ret rm z) {i : Nat} {x : Int32} (d : decode cc pc = .ok (.putfield 32, 3)) (hal : wAl z 3 i) (hb : narrow .boolean (.int x) = .int x) (hf : fits .boolean (.int x) = true) (hp : pc + 3 = pc') (kk : G K z (upI I 3 i 9 x) P O c n pc' L S) : G K z I P O c n pc L (.int x :: .ref ((Kg K).2.2 3 i) :: S) := g_putf (f := 9) C d hal rfl rfl iX0 tyX0_ok nmX0 (Nat.le_of_ble_eq_true rfl) fl_X0_32 rfl rfl (ty := .boolean) (tyX0_ok 9 (by decide)) hb hf (Nat.le_of_ble_eq_true rfl) rfl hp kk
theorem f_X4_71 (C : Cx K cc RX4 nL ret rm z) {i : Nat} (d : decode cc pc = .ok (.getfield 71, 3)) (hal : wAl z 12 i) (hp : pc + 3 = pc') (kk : G K z I P O c n pc' L (.int (I 12 i 0) :: S)) : G K z I P O c n pc L (.ref ((Kg K).2.2 12 i) :: S) := g_getf (f := 0) C d hal rfl rfl iX4 (Nat.le_of_ble_eq_true rfl) fl_X4_71 rfl rfl hp kk
theorem p_X4_71 (C : Cx K cc RX4 nL ret rm z) {i : Nat} {x : Int32} (d : decode cc pc = .ok (.putfield 71, 3)) (hal : wAl z 12 i) (hp : pc + 3 = pc') (kk : G K z (upI I 12 i 0 x) P O c n pc' L S) : G K z I P O c n pc L (.int x :: .ref ((Kg K).2.2 12 i) :: S) := g_putf (f := 0) C d hal rfl rfl iX4 tyX4_ok nmX4 (Nat.le_of_ble_eq_true rfl) fl_X4_71 rfl rfl (ty := .int) (tyX4_ok 0 (by decide)) rfl rfl (Nat.le_of_ble_eq_true rfl) rfl hp kk
theorem f_X4_85 (C : Cx K cc RX4 nL ret rm z) {i : Nat} (d : decode cc pc = .ok (.getfield 85, 3)) (hal : wAl z 12 i) (hp : pc + 3 = pc') (kk : G K z I P O c n pc' L (.int (I 12 i 1) :: S)) : G K z I P O c n pc L (.ref ((Kg K).2.2 12 i) :: S) := g_getf (f := 1) C d hal rfl rfl iX4 (Nat.le_of_ble_eq_true rfl) fl_X4_85 rfl rfl hp kk
theorem p_X4_85 (C : Cx K cc RX4 nL ret rm z) {i : Nat} {x : Int32} (d : decode cc pc = .ok (.putfield 85, 3)) (hal : wAl z 12 i) (hp : pc + 3 = pc') (kk : G K z (upI I 12 i 1 x) P O c n pc' L S) : G K z I P O c n pc L (.int x :: .ref ((Kg K).2.2 12 i) :: S) := g_putf (f := 1) C d hal rfl rfl iX4 tyX4_ok nmX4 (Nat.le_of_ble_eq_true rfl) fl_X4_85 rfl rfl (ty := .int) (tyX4_ok 1 (by decide)) rfl rfl (Nat.le_of_ble_eq_true rfl) rfl hp kk
theorem f_X4_7 (C : Cx K cc RX4 nL ret rm z) {i : Nat} (d : decode cc pc = .ok (.getfield 7, 3)) (hal : wAl z 12 i) (hp : pc + 3 = pc') (kk : G K z I P O c n pc' L (.ref ((Kg K).2.2 13 2) :: S)) : G K z I P O c n pc L (.ref ((Kg K).2.2 12 i) :: S) := g_getf (f := 2) C d hal rfl rfl iX4 (Nat.le_of_ble_eq_true rfl) fl_X4_7 rfl rfl hp kk
theorem f_X4_13 (C : Cx K cc RX4 nL ret rm z) {i : Nat} (d : decode cc pc = .ok (.getfield 13, 3)) (hal : wAl z 12 i) (hp : pc + 3 = pc') (kk : G K z I P O c n pc' L (.ref ((Kg K).2.2 13 3) :: S)) : G K z I P O c n pc L (.ref ((Kg K).2.2 12 i) :: S) := g_getf (f := 3) C d hal rfl rfl iX4 (Nat.le_of_ble_eq_true rfl) fl_X4_13 rfl rfl hp kk
theorem f_X4_16 (C : Cx K cc RX4 nL ret rm z) {i : Nat} (d : decode cc pc = .ok (.getfield 16, 3)) (hal : wAl z 12 i) (hp : pc + 3 = pc') (kk : G K z I P O c n pc' L (.ref ((Kg K).2.2 13 4) :: S)) : G K z I P O c n pc L (.ref ((Kg K).2.2 12 i) :: S) := g_getf (f := 4) C d hal rfl rfl iX4 (Nat.le_of_ble_eq_true rfl) fl_X4_16 rfl rfl hp kk
theorem f_X4_75 (C : Cx K cc RX4 nL ret rm z) {i : Nat} (d : decode cc pc = .ok (.getfield 75, 3)) (hal : wAl z 12 i) (hp : pc + 3 = pc') (kk : G K z I P O c n pc' L (.int (I 12 i 5) :: S)) : G K z I P O c n pc L (.ref ((Kg K).2.2 12 i) :: S) := g_getf (f := 5) C d hal rfl rfl iX4 (Nat.le_of_ble_eq_true rfl) fl_X4_75 rfl rfl hp kk
theorem p_X4_75 (C : Cx K cc RX4 nL ret rm z) {i : Nat} {x : Int32} (d : decode cc pc = .ok (.putfield 75, 3)) (hal : wAl z 12 i) (hp : pc + 3 = pc') (kk : G K z (upI I 12 i 5 x) P O c n pc' L S) : G K z I P O c n pc L (.int x :: .ref ((Kg K).2.2 12 i) :: S) := g_putf (f := 5) C d hal rfl rfl iX4 tyX4_ok nmX4 (Nat.le_of_ble_eq_true rfl) fl_X4_75 rfl rfl (ty := .int) (tyX4_ok 5 (by decide)) rfl rfl (Nat.le_of_ble_eq_true rfl) rfl hp kk
theorem f_X4_20 (C : Cx K cc RX4 nL ret rm z) {i : Nat} (d : decode cc pc = .ok (.getfield 20, 3)) (hal : wAl z 12 i) (hp : pc + 3 = pc') (kk : G K z I P O c n pc' L (.ref ((Kg K).2.2 13 6) :: S)) : G K z I P O c n pc L (.ref ((Kg K).2.2 12 i) :: S) := g_getf (f := 6) C d hal rfl rfl iX4 (Nat.le_of_ble_eq_true rfl) fl_X4_20 rfl rfl hp kk
theorem f_X4_23 (C : Cx K cc RX4 nL ret rm z) {i : Nat} (d : decode cc pc = .ok (.getfield 23, 3)) (hal : wAl z 12 i) (hp : pc + 3 = pc') (kk : G K z I P O c n pc' L (.ref ((Kg K).2.2 13 7) :: S)) : G K z I P O c n pc L (.ref ((Kg K).2.2 12 i) :: S) := g_getf (f := 7) C d hal rfl rfl iX4 (Nat.le_of_ble_eq_true rfl) fl_X4_23 rfl rfl hp kk
theorem f_X4_26 (C : Cx K cc RX4 nL ret rm z) {i : Nat} (d : decode cc pc = .ok (.getfield 26, 3)) (hal : wAl z 12 i) (hp : pc + 3 = pc') (kk : G K z I P O c n pc' L (.ref ((Kg K).2.2 13 8) :: S)) : G K z I P O c n pc L (.ref ((Kg K).2.2 12 i) :: S) := g_getf (f := 8) C d hal rfl rfl iX4 (Nat.le_of_ble_eq_true rfl) fl_X4_26 rfl rfl hp kk
theorem f_X4_29 (C : Cx K cc RX4 nL ret rm z) {i : Nat} (d : decode cc pc = .ok (.getfield 29, 3)) (hal : wAl z 12 i) (hp : pc + 3 = pc') (kk : G K z I P O c n pc' L (.ref ((Kg K).2.2 13 9) :: S)) : G K z I P O c n pc L (.ref ((Kg K).2.2 12 i) :: S) := g_getf (f := 9) C d hal rfl rfl iX4 (Nat.le_of_ble_eq_true rfl) fl_X4_29 rfl rfl hp kk
theorem f_X4_32 (C : Cx K cc RX4 nL ret rm z) {i : Nat} (d : decode cc pc = .ok (.getfield 32, 3)) (hal : wAl z 12 i) (hp : pc + 3 = pc') (kk : G K z I P O c n pc' L (.ref ((Kg K).2.2 13 10) :: S)) : G K z I P O c n pc L (.ref ((Kg K).2.2 12 i) :: S) := g_getf (f := 10) C d hal rfl rfl iX4 (Nat.le_of_ble_eq_true rfl) fl_X4_32 rfl rfl hp kk
theorem f_X4_35 (C : Cx K cc RX4 nL ret rm z) {i : Nat} (d : decode cc pc = .ok (.getfield 35, 3)) (hal : wAl z 12 i) (hp : pc + 3 = pc') (kk : G K z I P O c n pc' L (.ref ((Kg K).2.2 13 11) :: S)) : G K z I P O c n pc L (.ref ((Kg K).2.2 12 i) :: S) := g_getf (f := 11) C d hal rfl rfl iX4 (Nat.le_of_ble_eq_true rfl) fl_X4_35 rfl rfl hp kk
theorem f_X4_38 (C : Cx K cc RX4 nL ret rm z) {i : Nat} (d : decode cc pc = .ok (.getfield 38, 3)) (hal : wAl z 12 i) (hp : pc + 3 = pc') (kk : G K z I P O c n pc' L (.ref ((Kg K).2.2 13 12) :: S)) : G K z I P O c n pc L (.ref ((Kg K).2.2 12 i) :: S) := g_getf (f := 12) C d hal rfl rfl iX4 (Nat.le_of_ble_eq_true rfl) fl_X4_38 rfl rfl hp kk
theorem f_X4_82 (C : Cx K cc RX4 nL ret rm z) {i : Nat} (d : decode cc pc = .ok (.getfield 82, 3)) (hal : wAl z 12 i) (hp : pc + 3 = pc') (kk : G K z I P O c n pc' L (.int (I 12 i 13) :: S)) : G K z I P O c n pc L (.ref ((Kg K).2.2 12 i) :: S) := g_getf (f := 13) C d hal rfl rfl iX4 (Nat.le_of_ble_eq_true rfl) fl_X4_82 rfl rfl hp kk
theorem p_X4_82 (C : Cx K cc RX4 nL ret rm z) {i : Nat} {x : Int32} (d : decode cc pc = .ok (.putfield 82, 3)) (hal : wAl z 12 i) (hp : pc + 3 = pc') (kk : G K z (upI I 12 i 13 x) P O c n pc' L S) : G K z I P O c n pc L (.int x :: .ref ((Kg K).2.2 12 i) :: S) := g_putf (f := 13) C d hal rfl rfl iX4 tyX4_ok nmX4 (Nat.le_of_ble_eq_true rfl) fl_X4_82 rfl rfl (ty := .int) (tyX4_ok 13 (by decide)) rfl rfl (Nat.le_of_ble_eq_true rfl) rfl hp kk
theorem f_X4_41 (C : Cx K cc RX4 nL ret rm z) {i : Nat} (d : decode cc pc = .ok (.getfield 41, 3)) (hal : wAl z 12 i) (hp : pc + 3 = pc') (kk : G K z I P O c n pc' L (.ref ((Kg K).2.2 13 14) :: S)) : G K z I P O c n pc L (.ref ((Kg K).2.2 12 i) :: S) := g_getf (f := 14) C d hal rfl rfl iX4 (Nat.le_of_ble_eq_true rfl) fl_X4_41 rfl rfl hp kk
theorem f_X4_44 (C : Cx K cc RX4 nL ret rm z) {i : Nat} (d : decode cc pc = .ok (.getfield 44, 3)) (hal : wAl z 12 i) (hp : pc + 3 = pc') (kk : G K z I P O c n pc' L (.ref ((Kg K).2.2 13 15) :: S)) : G K z I P O c n pc L (.ref ((Kg K).2.2 12 i) :: S) := g_getf (f := 15) C d hal rfl rfl iX4 (Nat.le_of_ble_eq_true rfl) fl_X4_44 rfl rfl hp kk
theorem f_X4_47 (C : Cx K cc RX4 nL ret rm z) {i : Nat} (d : decode cc pc = .ok (.getfield 47, 3)) (hal : wAl z 12 i) (hp : pc + 3 = pc') (kk : G K z I P O c n pc' L (.ref ((Kg K).2.2 13 16) :: S)) : G K z I P O c n pc L (.ref ((Kg K).2.2 12 i) :: S) := g_getf (f := 16) C d hal rfl rfl iX4 (Nat.le_of_ble_eq_true rfl) fl_X4_47 rfl rfl hp kk
theorem f_X4_50 (C : Cx K cc RX4 nL ret rm z) {i : Nat} (d : decode cc pc = .ok (.getfield 50, 3)) (hal : wAl z 12 i) (hp : pc + 3 = pc') (kk : G K z I P O c n pc' L (.ref ((Kg K).2.2 13 17) :: S)) : G K z I P O c n pc L (.ref ((Kg K).2.2 12 i) :: S) := g_getf (f := 17) C d hal rfl rfl iX4 (Nat.le_of_ble_eq_true rfl) fl_X4_50 rfl rfl hp kk
theorem f_X4_53 (C : Cx K cc RX4 nL ret rm z) {i : Nat} (d : decode cc pc = .ok (.getfield 53, 3)) (hal : wAl z 12 i) (hp : pc + 3 = pc') (kk : G K z I P O c n pc' L (.ref ((Kg K).2.2 13 18) :: S)) : G K z I P O c n pc L (.ref ((Kg K).2.2 12 i) :: S) := g_getf (f := 18) C d hal rfl rfl iX4 (Nat.le_of_ble_eq_true rfl) fl_X4_53 rfl rfl hp kk
theorem f_X4_56 (C : Cx K cc RX4 nL ret rm z) {i : Nat} (d : decode cc pc = .ok (.getfield 56, 3)) (hal : wAl z 12 i) (hp : pc + 3 = pc') (kk : G K z I P O c n pc' L (.ref ((Kg K).2.2 13 19) :: S)) : G K z I P O c n pc L (.ref ((Kg K).2.2 12 i) :: S) := g_getf (f := 19) C d hal rfl rfl iX4 (Nat.le_of_ble_eq_true rfl) fl_X4_56 rfl rfl hp kk
theorem f_X4_59 (C : Cx K cc RX4 nL ret rm z) {i : Nat} (d : decode cc pc = .ok (.getfield 59, 3)) (hal : wAl z 12 i) (hp : pc + 3 = pc') (kk : G K z I P O c n pc' L (.ref ((Kg K).2.2 13 20) :: S)) : G K z I P O c n pc L (.ref ((Kg K).2.2 12 i) :: S) := g_getf (f := 20) C d hal rfl rfl iX4 (Nat.le_of_ble_eq_true rfl) fl_X4_59 rfl rfl hp kk
theorem f_X4_62 (C : Cx K cc RX4 nL ret rm z) {i : Nat} (d : decode cc pc = .ok (.getfield 62, 3)) (hal : wAl z 12 i) (hp : pc + 3 = pc') (kk : G K z I P O c n pc' L (.ref ((Kg K).2.2 13 21) :: S)) : G K z I P O c n pc L (.ref ((Kg K).2.2 12 i) :: S) := g_getf (f := 21) C d hal rfl rfl iX4 (Nat.le_of_ble_eq_true rfl) fl_X4_62 rfl rfl hp kk
theorem f_X4_65 (C : Cx K cc RX4 nL ret rm z) {i : Nat} (d : decode cc pc = .ok (.getfield 65, 3)) (hal : wAl z 12 i) (hp : pc + 3 = pc') (kk : G K z I P O c n pc' L (.ref ((Kg K).2.2 13 22) :: S)) : G K z I P O c n pc L (.ref ((Kg K).2.2 12 i) :: S) := g_getf (f := 22) C d hal rfl rfl iX4 (Nat.le_of_ble_eq_true rfl) fl_X4_65 rfl rfl hp kk
theorem f_X4_68 (C : Cx K cc RX4 nL ret rm z) {i : Nat} (d : decode cc pc = .ok (.getfield 68, 3)) (hal : wAl z 12 i) (hp : pc + 3 = pc') (kk : G K z I P O c n pc' L (.ref ((Kg K).2.2 13 23) :: S)) : G K z I P O c n pc L (.ref ((Kg K).2.2 12 i) :: S) := g_getf (f := 23) C d hal rfl rfl iX4 (Nat.le_of_ble_eq_true rfl) fl_X4_68 rfl rfl hp kk
abbrev dp (v : Option Value) (I1 : wI) (P1 : wP) : Option Value → wI → wP → Prop := fun a b d => a = v ∧ b = I1 ∧ d = P1
theorem k_X3_95 (C : Cx K cc RX3 nL ret rm z) {i : Nat} {a0 : Value} {v : Value} {I1 : wI} {P1 : wP} {rmy : Room} (hM : RT (Kl K) yX3_matterAt cX3_matterAt 2 ((some (.object "Hearingpay$Matter"))) rmy (Kg K) z [.ref ((Kg K).2.2 0 i), a0] I P O (dp (some v) I1 P1)) (d : decode cc pc = .ok (.invokevirtual 95, 3)) (hal : wAl z 0 i) (hroom : (rmy.frames + 1 ≤ rm.frames ∧ 8 + (2 + 11) + rmy.locals ≤ rm.locals) ∧ rmy.cells = 0 ∧ rmy.slots = 0) (hcat : (S.map fun v => v.category).sum ≤ 8) (hf : c ≤ rm.cells ∧ n ≤ rm.slots) (hp : pc + 3 = pc') (kk : G K z I1 P1 O c n pc' L (v :: S)) : G K z I P O c n pc L (a0 :: .ref ((Kg K).2.2 0 i) :: S) := g_callV C cv_X3_95 hM d hal rfl rfl ⟨rfl, by decide +kernel, by decide +kernel, (by decide +kernel : (parseMethodDescriptor yX3_matterAt.desc).map (fun d => d.parameters.length) = some 1)⟩ hroom rfl hcat hf hp (fun v1 I2 P2 q => by obtain ⟨rfl, rfl, rfl⟩ := q; exact kk)
theorem k_X3_42 (C : Cx K cc RX3 nL ret rm z) {i : Nat} {a0 : Value} {v : Value} {I1 : wI} {P1 : wP} {rmy : Room} (hM : RT (Kl K) yX3_interpreterAt cX3_interpreterAt 2 ((some (.object "Hearingpay$Interpreter"))) rmy (Kg K) z [.ref ((Kg K).2.2 0 i), a0] I P O (dp (some v) I1 P1)) (d : decode cc pc = .ok (.invokevirtual 42, 3)) (hal : wAl z 0 i) (hroom : (rmy.frames + 1 ≤ rm.frames ∧ 8 + (2 + 11) + rmy.locals ≤ rm.locals) ∧ rmy.cells = 0 ∧ rmy.slots = 0) (hcat : (S.map fun v => v.category).sum ≤ 8) (hf : c ≤ rm.cells ∧ n ≤ rm.slots) (hp : pc + 3 = pc') (kk : G K z I1 P1 O c n pc' L (v :: S)) : G K z I P O c n pc L (a0 :: .ref ((Kg K).2.2 0 i) :: S) := g_callV C cv_X3_42 hM d hal rfl rfl ⟨rfl, by decide +kernel, by decide +kernel, (by decide +kernel : (parseMethodDescriptor yX3_interpreterAt.desc).map (fun d => d.parameters.length) = some 1)⟩ hroom rfl hcat hf hp (fun v1 I2 P2 q => by obtain ⟨rfl, rfl, rfl⟩ := q; exact kk)
theorem k_X3_66 (C : Cx K cc RX3 nL ret rm z) {a0 a1 : Value} {v : Value} {I1 : wI} {P1 : wP} {rmy : Room} (hM : RT (Kl K) yX3_isIn cX3_isIn 2 ((some .boolean)) rmy (Kg K) z [a0, a1] I P O (dp (some v) I1 P1)) (d : decode cc pc = .ok (.invokestatic 66, 3)) (hroom : (rmy.frames + 1 ≤ rm.frames ∧ 8 + (2 + 11) + rmy.locals ≤ rm.locals) ∧ rmy.cells = 0 ∧ rmy.slots = 0) (hcat : (S.map fun v => v.category).sum ≤ 8) (hf : c ≤ rm.cells ∧ n ≤ rm.slots) (hp : pc + 3 = pc') (kk : G K z I1 P1 O c n pc' L (v :: S)) : G K z I P O c n pc L (a1 :: a0 :: S) := g_callS C cs_X3_66 hM d ⟨rfl, by decide +kernel, by decide +kernel, (by decide +kernel : (parseMethodDescriptor yX3_isIn.desc).map (fun d => d.parameters.length) = some 2)⟩ hroom rfl hcat hf hp (fun v1 I2 P2 q => by obtain ⟨rfl, rfl, rfl⟩ := q; exact kk)
theorem k_X3_70 (C : Cx K cc RX3 nL ret rm z) {a0 a1 : Value} {v : Value} {I1 : wI} {P1 : wP} {rmy : Room} (hM : RT (Kl K) yX3_isInOrNone cX3_isInOrNone 2 ((some .boolean)) rmy (Kg K) z [a0, a1] I P O (dp (some v) I1 P1)) (d : decode cc pc = .ok (.invokestatic 70, 3)) (hroom : (rmy.frames + 1 ≤ rm.frames ∧ 8 + (2 + 11) + rmy.locals ≤ rm.locals) ∧ rmy.cells = 0 ∧ rmy.slots = 0) (hcat : (S.map fun v => v.category).sum ≤ 8) (hf : c ≤ rm.cells ∧ n ≤ rm.slots) (hp : pc + 3 = pc') (kk : G K z I1 P1 O c n pc' L (v :: S)) : G K z I P O c n pc L (a1 :: a0 :: S) := g_callS C cs_X3_70 hM d ⟨rfl, by decide +kernel, by decide +kernel, (by decide +kernel : (parseMethodDescriptor yX3_isInOrNone.desc).map (fun d => d.parameters.length) = some 2)⟩ hroom rfl hcat hf hp (fun v1 I2 P2 q => by obtain ⟨rfl, rfl, rfl⟩ := q; exact kk)
theorem k_X3_88 (C : Cx K cc RX3 nL ret rm z) {i : Nat} {a0 a1 : Value} {v : Value} {I1 : wI} {P1 : wP} {rmy : Room} (hM : RT (Kl K) yX3_feeFor cX3_feeFor 4 ((some .int)) rmy (Kg K) z [.ref ((Kg K).2.2 0 i), a0, a1] I P O (dp (some v) I1 P1)) (d : decode cc pc = .ok (.invokevirtual 88, 3)) (hal : wAl z 0 i) (hroom : (rmy.frames + 1 ≤ rm.frames ∧ 8 + (4 + 11) + rmy.locals ≤ rm.locals) ∧ rmy.cells = 0 ∧ rmy.slots = 0) (hcat : (S.map fun v => v.category).sum ≤ 8) (hf : c ≤ rm.cells ∧ n ≤ rm.slots) (hp : pc + 3 = pc') (kk : G K z I1 P1 O c n pc' L (v :: S)) : G K z I P O c n pc L (a1 :: a0 :: .ref ((Kg K).2.2 0 i) :: S) := g_callV C cv_X3_88 hM d hal rfl rfl ⟨rfl, by decide +kernel, by decide +kernel, (by decide +kernel : (parseMethodDescriptor yX3_feeFor.desc).map (fun d => d.parameters.length) = some 2)⟩ hroom rfl hcat hf hp (fun v1 I2 P2 q => by obtain ⟨rfl, rfl, rfl⟩ := q; exact kk)
theorem k_X3_108 (C : Cx K cc RX3 nL ret rm z) {i : Nat} {a0 : Value} {v : Value} {I1 : wI} {P1 : wP} {rmy : Room} (hM : RT (Kl K) yX3_dropAllOf cX3_dropAllOf 5 ((some .int)) rmy (Kg K) z [.ref ((Kg K).2.2 0 i), a0] I P O (dp (some v) I1 P1)) (d : decode cc pc = .ok (.invokevirtual 108, 3)) (hal : wAl z 0 i) (hroom : (rmy.frames + 1 ≤ rm.frames ∧ 8 + (5 + 11) + rmy.locals ≤ rm.locals) ∧ rmy.cells = 0 ∧ rmy.slots = 0) (hcat : (S.map fun v => v.category).sum ≤ 8) (hf : c ≤ rm.cells ∧ n ≤ rm.slots) (hp : pc + 3 = pc') (kk : G K z I1 P1 O c n pc' L (v :: S)) : G K z I P O c n pc L (a0 :: .ref ((Kg K).2.2 0 i) :: S) := g_callV C cv_X3_108 hM d hal rfl rfl ⟨rfl, by decide +kernel, by decide +kernel, (by decide +kernel : (parseMethodDescriptor yX3_dropAllOf.desc).map (fun d => d.parameters.length) = some 1)⟩ hroom rfl hcat hf hp (fun v1 I2 P2 q => by obtain ⟨rfl, rfl, rfl⟩ := q; exact kk)
theorem k_X3_149 (C : Cx K cc RX3 nL ret rm z) {i : Nat} {a0 : Value} {v : Value} {I1 : wI} {P1 : wP} {rmy : Room} (hM : RT (Kl K) yX3_hearingAt cX3_hearingAt 2 ((some (.object "Hearingpay$Hearing"))) rmy (Kg K) z [.ref ((Kg K).2.2 0 i), a0] I P O (dp (some v) I1 P1)) (d : decode cc pc = .ok (.invokevirtual 149, 3)) (hal : wAl z 0 i) (hroom : (rmy.frames + 1 ≤ rm.frames ∧ 8 + (2 + 11) + rmy.locals ≤ rm.locals) ∧ rmy.cells = 0 ∧ rmy.slots = 0) (hcat : (S.map fun v => v.category).sum ≤ 8) (hf : c ≤ rm.cells ∧ n ≤ rm.slots) (hp : pc + 3 = pc') (kk : G K z I1 P1 O c n pc' L (v :: S)) : G K z I P O c n pc L (a0 :: .ref ((Kg K).2.2 0 i) :: S) := g_callV C cv_X3_149 hM d hal rfl rfl ⟨rfl, by decide +kernel, by decide +kernel, (by decide +kernel : (parseMethodDescriptor yX3_hearingAt.desc).map (fun d => d.parameters.length) = some 1)⟩ hroom rfl hcat hf hp (fun v1 I2 P2 q => by obtain ⟨rfl, rfl, rfl⟩ := q; exact kk)
theorem k_X3_157 (C : Cx K cc RX3 nL ret rm z) {i : Nat} {a0 : Value} {v : Value} {I1 : wI} {P1 : wP} {rmy : Room} (hM : RT (Kl K) yX3_isToBegin cX3_isToBegin 2 ((some .boolean)) rmy (Kg K) z [.ref ((Kg K).2.2 0 i), a0] I P O (dp (some v) I1 P1)) (d : decode cc pc = .ok (.invokevirtual 157, 3)) (hal : wAl z 0 i) (hroom : (rmy.frames + 1 ≤ rm.frames ∧ 8 + (2 + 11) + rmy.locals ≤ rm.locals) ∧ rmy.cells = 0 ∧ rmy.slots = 0) (hcat : (S.map fun v => v.category).sum ≤ 8) (hf : c ≤ rm.cells ∧ n ≤ rm.slots) (hp : pc + 3 = pc') (kk : G K z I1 P1 O c n pc' L (v :: S)) : G K z I P O c n pc L (a0 :: .ref ((Kg K).2.2 0 i) :: S) := g_callV C cv_X3_157 hM d hal rfl rfl ⟨rfl, by decide +kernel, by decide +kernel, (by decide +kernel : (parseMethodDescriptor yX3_isToBegin.desc).map (fun d => d.parameters.length) = some 1)⟩ hroom rfl hcat hf hp (fun v1 I2 P2 q => by obtain ⟨rfl, rfl, rfl⟩ := q; exact kk)
theorem k_X3_170 (C : Cx K cc RX3 nL ret rm z) {i : Nat} {a0 : Value} {I1 : wI} {P1 : wP} {rmy : Room} (hM : RT (Kl K) yX3_leave cX3_leave 4 (none) rmy (Kg K) z [.ref ((Kg K).2.2 0 i), a0] I P O (dp none I1 P1)) (d : decode cc pc = .ok (.invokevirtual 170, 3)) (hal : wAl z 0 i) (hroom : (rmy.frames + 1 ≤ rm.frames ∧ 8 + (4 + 11) + rmy.locals ≤ rm.locals) ∧ rmy.cells = 0 ∧ rmy.slots = 0) (hcat : (S.map fun v => v.category).sum ≤ 8) (hf : c ≤ rm.cells ∧ n ≤ rm.slots) (hp : pc + 3 = pc') (kk : G K z I1 P1 O c n pc' L (S)) : G K z I P O c n pc L (a0 :: .ref ((Kg K).2.2 0 i) :: S) := g_callV C cv_X3_170 hM d hal rfl rfl ⟨rfl, by decide +kernel, by decide +kernel, (by decide +kernel : (parseMethodDescriptor yX3_leave.desc).map (fun d => d.parameters.length) = some 1)⟩ hroom rfl hcat hf hp (fun v1 I2 P2 q => by obtain ⟨rfl, rfl, rfl⟩ := q; exact kk)
theorem k_X3_248 (C : Cx K cc RX3 nL ret rm z) {i : Nat} {v : Value} {I1 : wI} {P1 : wP} {rmy : Room} (hM : RT (Kl K) yX0_charged cX0_charged 3 ((some .int)) rmy (Kg K) z [.ref ((Kg K).2.2 3 i)] I P O (dp (some v) I1 P1)) (d : decode cc pc = .ok (.invokevirtual 248, 3)) (hal : wAl z 3 i) (hroom : (rmy.frames + 1 ≤ rm.frames ∧ 8 + (3 + 11) + rmy.locals ≤ rm.locals) ∧ rmy.cells = 0 ∧ rmy.slots = 0) (hcat : (S.map fun v => v.category).sum ≤ 8) (hf : c ≤ rm.cells ∧ n ≤ rm.slots) (hp : pc + 3 = pc') (kk : G K z I1 P1 O c n pc' L (v :: S)) : G K z I P O c n pc L (.ref ((Kg K).2.2 3 i) :: S) := g_callV C cv_X3_248 hM d hal rfl rfl ⟨rfl, by decide +kernel, by decide +kernel, (by decide +kernel : (parseMethodDescriptor yX0_charged.desc).map (fun d => d.parameters.length) = some 0)⟩ hroom rfl hcat hf hp (fun v1 I2 P2 q => by obtain ⟨rfl, rfl, rfl⟩ := q; exact kk)
theorem k_X3_276 (C : Cx K cc RX3 nL ret rm z) {i : Nat} {a0 a1 a2 : Value} {I1 : wI} {P1 : wP} {rmy : Room} (hM : RT (Kl K) yX1_keep cX1_keep 5 (none) rmy (Kg K) z [.ref ((Kg K).2.2 1 i), a0, a1, a2] I P O (dp none I1 P1)) (d : decode cc pc = .ok (.invokevirtual 276, 3)) (hal : wAl z 1 i) (hroom : (rmy.frames + 1 ≤ rm.frames ∧ 8 + (5 + 11) + rmy.locals ≤ rm.locals) ∧ rmy.cells = 0 ∧ rmy.slots = 0) (hcat : (S.map fun v => v.category).sum ≤ 8) (hf : c ≤ rm.cells ∧ n ≤ rm.slots) (hp : pc + 3 = pc') (kk : G K z I1 P1 O c n pc' L (S)) : G K z I P O c n pc L (a2 :: a1 :: a0 :: .ref ((Kg K).2.2 1 i) :: S) := g_callV C cv_X3_276 hM d hal rfl rfl ⟨rfl, by decide +kernel, by decide +kernel, (by decide +kernel : (parseMethodDescriptor yX1_keep.desc).map (fun d => d.parameters.length) = some 3)⟩ hroom rfl hcat hf hp (fun v1 I2 P2 q => by obtain ⟨rfl, rfl, rfl⟩ := q; exact kk)
theorem k_X1_31 (C : Cx K cc RX1 nL ret rm z) {a0 : Value} {v : Value} {I1 : wI} {P1 : wP} {rmy : Room} (hM : RT (Kl K) yX1_placeOf cX1_placeOf 1 ((some .int)) rmy (Kg K) z [a0] I P O (dp (some v) I1 P1)) (d : decode cc pc = .ok (.invokestatic 31, 3)) (hroom : (rmy.frames + 1 ≤ rm.frames ∧ 8 + (1 + 11) + rmy.locals ≤ rm.locals) ∧ rmy.cells = 0 ∧ rmy.slots = 0) (hcat : (S.map fun v => v.category).sum ≤ 8) (hf : c ≤ rm.cells ∧ n ≤ rm.slots) (hp : pc + 3 = pc') (kk : G K z I1 P1 O c n pc' L (v :: S)) : G K z I P O c n pc L (a0 :: S) := g_callS C cs_X1_31 hM d ⟨rfl, by decide +kernel, by decide +kernel, (by decide +kernel : (parseMethodDescriptor yX1_placeOf.desc).map (fun d => d.parameters.length) = some 1)⟩ hroom rfl hcat hf hp (fun v1 I2 P2 q => by obtain ⟨rfl, rfl, rfl⟩ := q; exact kk)
theorem k_X3_125 (C : Cx K cc RX3 nL ret rm z) {i : Nat} {v : Value} {I1 : wI} {P1 : wP} {rmy : Room} (hM : RT (Kl K) yX2_isOpen cX2_isOpen 1 ((some .boolean)) rmy (Kg K) z [.ref ((Kg K).2.2 2 i)] I P O (dp (some v) I1 P1)) (d : decode cc pc = .ok (.invokevirtual 125, 3)) (hal : wAl z 2 i) (hroom : (rmy.frames + 1 ≤ rm.frames ∧ 8 + (1 + 11) + rmy.locals ≤ rm.locals) ∧ rmy.cells = 0 ∧ rmy.slots = 0) (hcat : (S.map fun v => v.category).sum ≤ 8) (hf : c ≤ rm.cells ∧ n ≤ rm.slots) (hp : pc + 3 = pc') (kk : G K z I1 P1 O c n pc' L (v :: S)) : G K z I P O c n pc L (.ref ((Kg K).2.2 2 i) :: S) := g_callV C cv_X3_125 hM d hal rfl rfl ⟨rfl, by decide +kernel, by decide +kernel, (by decide +kernel : (parseMethodDescriptor yX2_isOpen.desc).map (fun d => d.parameters.length) = some 0)⟩ hroom rfl hcat hf hp (fun v1 I2 P2 q => by obtain ⟨rfl, rfl, rfl⟩ := q; exact kk)
theorem k_X3_129 (C : Cx K cc RX3 nL ret rm z) {i : Nat} {a0 a1 : Value} {v : Value} {I1 : wI} {P1 : wP} {rmy : Room} (hM : RT (Kl K) yX3_isAsNeeded cX3_isAsNeeded 4 ((some .boolean)) rmy (Kg K) z [.ref ((Kg K).2.2 0 i), a0, a1] I P O (dp (some v) I1 P1)) (d : decode cc pc = .ok (.invokevirtual 129, 3)) (hal : wAl z 0 i) (hroom : (rmy.frames + 1 ≤ rm.frames ∧ 8 + (4 + 11) + rmy.locals ≤ rm.locals) ∧ rmy.cells = 0 ∧ rmy.slots = 0) (hcat : (S.map fun v => v.category).sum ≤ 8) (hf : c ≤ rm.cells ∧ n ≤ rm.slots) (hp : pc + 3 = pc') (kk : G K z I1 P1 O c n pc' L (v :: S)) : G K z I P O c n pc L (a1 :: a0 :: .ref ((Kg K).2.2 0 i) :: S) := g_callV C cv_X3_129 hM d hal rfl rfl ⟨rfl, by decide +kernel, by decide +kernel, (by decide +kernel : (parseMethodDescriptor yX3_isAsNeeded.desc).map (fun d => d.parameters.length) = some 2)⟩ hroom rfl hcat hf hp (fun v1 I2 P2 q => by obtain ⟨rfl, rfl, rfl⟩ := q; exact kk)
theorem k_X3_257 (C : Cx K cc RX3 nL ret rm z) {i : Nat} {a0 : Value} {v : Value} {I1 : wI} {P1 : wP} {rmy : Room} (hM : RT (Kl K) yX1_knows cX1_knows 2 ((some .boolean)) rmy (Kg K) z [.ref ((Kg K).2.2 1 i), a0] I P O (dp (some v) I1 P1)) (d : decode cc pc = .ok (.invokevirtual 257, 3)) (hal : wAl z 1 i) (hroom : (rmy.frames + 1 ≤ rm.frames ∧ 8 + (2 + 11) + rmy.locals ≤ rm.locals) ∧ rmy.cells = 0 ∧ rmy.slots = 0) (hcat : (S.map fun v => v.category).sum ≤ 8) (hf : c ≤ rm.cells ∧ n ≤ rm.slots) (hp : pc + 3 = pc') (kk : G K z I1 P1 O c n pc' L (v :: S)) : G K z I P O c n pc L (a0 :: .ref ((Kg K).2.2 1 i) :: S) := g_callV C cv_X3_257 hM d hal rfl rfl ⟨rfl, by decide +kernel, by decide +kernel, (by decide +kernel : (parseMethodDescriptor yX1_knows.desc).map (fun d => d.parameters.length) = some 1)⟩ hroom rfl hcat hf hp (fun v1 I2 P2 q => by obtain ⟨rfl, rfl, rfl⟩ := q; exact kk)
theorem k_X3_135 (C : Cx K cc RX3 nL ret rm z) {i : Nat} {a0 a1 a2 a3 a4 a5 : Value} {v : Value} {I1 : wI} {P1 : wP} {rmy : Room} (hM : RT (Kl K) yX3_clashReason cX3_clashReason 11 ((some .int)) rmy (Kg K) z [.ref ((Kg K).2.2 0 i), a0, a1, a2, a3, a4, a5] I P O (dp (some v) I1 P1)) (d : decode cc pc = .ok (.invokevirtual 135, 3)) (hal : wAl z 0 i) (hroom : (rmy.frames + 1 ≤ rm.frames ∧ 8 + (11 + 11) + rmy.locals ≤ rm.locals) ∧ rmy.cells = 0 ∧ rmy.slots = 0) (hcat : (S.map fun v => v.category).sum ≤ 8) (hf : c ≤ rm.cells ∧ n ≤ rm.slots) (hp : pc + 3 = pc') (kk : G K z I1 P1 O c n pc' L (v :: S)) : G K z I P O c n pc L (a5 :: a4 :: a3 :: a2 :: a1 :: a0 :: .ref ((Kg K).2.2 0 i) :: S) := g_callV C cv_X3_135 hM d hal rfl rfl ⟨rfl, by decide +kernel, by decide +kernel, (by decide +kernel : (parseMethodDescriptor yX3_clashReason.desc).map (fun d => d.parameters.length) = some 6)⟩ hroom rfl hcat hf hp (fun v1 I2 P2 q => by obtain ⟨rfl, rfl, rfl⟩ := q; exact kk)
theorem k_X3_218 (C : Cx K cc RX3 nL ret rm z) {i : Nat} {a0 a1 : Value} {v : Value} {I1 : wI} {P1 : wP} {rmy : Room} (hM : RT (Kl K) yX0_takesPartOf cX0_takesPartOf 3 ((some .boolean)) rmy (Kg K) z [.ref ((Kg K).2.2 3 i), a0, a1] I P O (dp (some v) I1 P1)) (d : decode cc pc = .ok (.invokevirtual 218, 3)) (hal : wAl z 3 i) (hroom : (rmy.frames + 1 ≤ rm.frames ∧ 8 + (3 + 11) + rmy.locals ≤ rm.locals) ∧ rmy.cells = 0 ∧ rmy.slots = 0) (hcat : (S.map fun v => v.category).sum ≤ 8) (hf : c ≤ rm.cells ∧ n ≤ rm.slots) (hp : pc + 3 = pc') (kk : G K z I1 P1 O c n pc' L (v :: S)) : G K z I P O c n pc L (a1 :: a0 :: .ref ((Kg K).2.2 3 i) :: S) := g_callV C cv_X3_218 hM d hal rfl rfl ⟨rfl, by decide +kernel, by decide +kernel, (by decide +kernel : (parseMethodDescriptor yX0_takesPartOf.desc).map (fun d => d.parameters.length) = some 2)⟩ hroom rfl hcat hf hp (fun v1 I2 P2 q => by obtain ⟨rfl, rfl, rfl⟩ := q; exact kk)
theorem k_X3_260 (C : Cx K cc RX3 nL ret rm z) {i : Nat} {a0 a1 a2 : Value} {v : Value} {I1 : wI} {P1 : wP} {rmy : Room} (hM : RT (Kl K) yX0_reasonAgainst cX0_reasonAgainst 4 ((some .int)) rmy (Kg K) z [.ref ((Kg K).2.2 3 i), a0, a1, a2] I P O (dp (some v) I1 P1)) (d : decode cc pc = .ok (.invokevirtual 260, 3)) (hal : wAl z 3 i) (hroom : (rmy.frames + 1 ≤ rm.frames ∧ 8 + (4 + 11) + rmy.locals ≤ rm.locals) ∧ rmy.cells = 0 ∧ rmy.slots = 0) (hcat : (S.map fun v => v.category).sum ≤ 8) (hf : c ≤ rm.cells ∧ n ≤ rm.slots) (hp : pc + 3 = pc') (kk : G K z I1 P1 O c n pc' L (v :: S)) : G K z I P O c n pc L (a2 :: a1 :: a0 :: .ref ((Kg K).2.2 3 i) :: S) := g_callV C cv_X3_260 hM d hal rfl rfl ⟨rfl, by decide +kernel, by decide +kernel, (by decide +kernel : (parseMethodDescriptor yX0_reasonAgainst.desc).map (fun d => d.parameters.length) = some 3)⟩ hroom rfl hcat hf hp (fun v1 I2 P2 q => by obtain ⟨rfl, rfl, rfl⟩ := q; exact kk)
theorem k_X0_54 (C : Cx K cc RX0 nL ret rm z) {i : Nat} {a0 a1 : Value} {v : Value} {I1 : wI} {P1 : wP} {rmy : Room} (hM : RT (Kl K) yX0_needs cX0_needs 3 ((some .boolean)) rmy (Kg K) z [.ref ((Kg K).2.2 3 i), a0, a1] I P O (dp (some v) I1 P1)) (d : decode cc pc = .ok (.invokevirtual 54, 3)) (hal : wAl z 3 i) (hroom : (rmy.frames + 1 ≤ rm.frames ∧ 8 + (3 + 11) + rmy.locals ≤ rm.locals) ∧ rmy.cells = 0 ∧ rmy.slots = 0) (hcat : (S.map fun v => v.category).sum ≤ 8) (hf : c ≤ rm.cells ∧ n ≤ rm.slots) (hp : pc + 3 = pc') (kk : G K z I1 P1 O c n pc' L (v :: S)) : G K z I P O c n pc L (a1 :: a0 :: .ref ((Kg K).2.2 3 i) :: S) := g_callV C cv_X0_54 hM d hal rfl rfl ⟨rfl, by decide +kernel, by decide +kernel, (by decide +kernel : (parseMethodDescriptor yX0_needs.desc).map (fun d => d.parameters.length) = some 2)⟩ hroom rfl hcat hf hp (fun v1 I2 P2 q => by obtain ⟨rfl, rfl, rfl⟩ := q; exact kk)
theorem k_X0_50 (C : Cx K cc RX0 nL ret rm z) {i : Nat} {a0 : Value} {v : Value} {I1 : wI} {P1 : wP} {rmy : Room} (hM : RT (Kl K) yX2_isOf cX2_isOf 2 ((some .boolean)) rmy (Kg K) z [.ref ((Kg K).2.2 2 i), a0] I P O (dp (some v) I1 P1)) (d : decode cc pc = .ok (.invokevirtual 50, 3)) (hal : wAl z 2 i) (hroom : (rmy.frames + 1 ≤ rm.frames ∧ 8 + (2 + 11) + rmy.locals ≤ rm.locals) ∧ rmy.cells = 0 ∧ rmy.slots = 0) (hcat : (S.map fun v => v.category).sum ≤ 8) (hf : c ≤ rm.cells ∧ n ≤ rm.slots) (hp : pc + 3 = pc') (kk : G K z I1 P1 O c n pc' L (v :: S)) : G K z I P O c n pc L (a0 :: .ref ((Kg K).2.2 2 i) :: S) := g_callV C cv_X0_50 hM d hal rfl rfl ⟨rfl, by decide +kernel, by decide +kernel, (by decide +kernel : (parseMethodDescriptor yX2_isOf.desc).map (fun d => d.parameters.length) = some 1)⟩ hroom rfl hcat hf hp (fun v1 I2 P2 q => by obtain ⟨rfl, rfl, rfl⟩ := q; exact kk)
theorem k_X3_144 (C : Cx K cc RX3 nL ret rm z) {i : Nat} {a0 a1 a2 a3 : Value} {I1 : wI} {P1 : wP} {rmy : Room} (hM : RT (Kl K) yX3_put cX3_put 7 (none) rmy (Kg K) z [.ref ((Kg K).2.2 0 i), a0, a1, a2, a3] I P O (dp none I1 P1)) (d : decode cc pc = .ok (.invokevirtual 144, 3)) (hal : wAl z 0 i) (hroom : (rmy.frames + 1 ≤ rm.frames ∧ 8 + (7 + 11) + rmy.locals ≤ rm.locals) ∧ rmy.cells = 0 ∧ rmy.slots = 0) (hcat : (S.map fun v => v.category).sum ≤ 8) (hf : c ≤ rm.cells ∧ n ≤ rm.slots) (hp : pc + 3 = pc') (kk : G K z I1 P1 O c n pc' L (S)) : G K z I P O c n pc L (a3 :: a2 :: a1 :: a0 :: .ref ((Kg K).2.2 0 i) :: S) := g_callV C cv_X3_144 hM d hal rfl rfl ⟨rfl, by decide +kernel, by decide +kernel, (by decide +kernel : (parseMethodDescriptor yX3_put.desc).map (fun d => d.parameters.length) = some 4)⟩ hroom rfl hcat hf hp (fun v1 I2 P2 q => by obtain ⟨rfl, rfl, rfl⟩ := q; exact kk)
theorem k_X3_264 (C : Cx K cc RX3 nL ret rm z) {i : Nat} {a0 a1 a2 : Value} {I1 : wI} {P1 : wP} {rmy : Room} (hM : RT (Kl K) yX0_settleAt cX0_settleAt 4 (none) rmy (Kg K) z [.ref ((Kg K).2.2 3 i), a0, a1, a2] I P O (dp none I1 P1)) (d : decode cc pc = .ok (.invokevirtual 264, 3)) (hal : wAl z 3 i) (hroom : (rmy.frames + 1 ≤ rm.frames ∧ 8 + (4 + 11) + rmy.locals ≤ rm.locals) ∧ rmy.cells = 0 ∧ rmy.slots = 0) (hcat : (S.map fun v => v.category).sum ≤ 8) (hf : c ≤ rm.cells ∧ n ≤ rm.slots) (hp : pc + 3 = pc') (kk : G K z I1 P1 O c n pc' L (S)) : G K z I P O c n pc L (a2 :: a1 :: a0 :: .ref ((Kg K).2.2 3 i) :: S) := g_callV C cv_X3_264 hM d hal rfl rfl ⟨rfl, by decide +kernel, by decide +kernel, (by decide +kernel : (parseMethodDescriptor yX0_settleAt.desc).map (fun d => d.parameters.length) = some 3)⟩ hroom rfl hcat hf hp (fun v1 I2 P2 q => by obtain ⟨rfl, rfl, rfl⟩ := q; exact kk)
theorem k_X3_272 (C : Cx K cc RX3 nL ret rm z) {i : Nat} {a0 a1 a2 : Value} {v : Value} {I1 : wI} {P1 : wP} {rmy : Room} (hM : RT (Kl K) yX1_take cX1_take 7 ((some .int)) rmy (Kg K) z [.ref ((Kg K).2.2 1 i), a0, a1, a2] I P O (dp (some v) I1 P1)) (d : decode cc pc = .ok (.invokevirtual 272, 3)) (hal : wAl z 1 i) (hroom : (rmy.frames + 1 ≤ rm.frames ∧ 8 + (7 + 11) + rmy.locals ≤ rm.locals) ∧ rmy.cells = 0 ∧ rmy.slots = 0) (hcat : (S.map fun v => v.category).sum ≤ 8) (hf : c ≤ rm.cells ∧ n ≤ rm.slots) (hp : pc + 3 = pc') (kk : G K z I1 P1 O c n pc' L (v :: S)) : G K z I P O c n pc L (a2 :: a1 :: a0 :: .ref ((Kg K).2.2 1 i) :: S) := g_callV C cv_X3_272 hM d hal rfl rfl ⟨rfl, by decide +kernel, by decide +kernel, (by decide +kernel : (parseMethodDescriptor yX1_take.desc).map (fun d => d.parameters.length) = some 3)⟩ hroom rfl hcat hf hp (fun v1 I2 P2 q => by obtain ⟨rfl, rfl, rfl⟩ := q; exact kk)
theorem k_X1_35 (C : Cx K cc RX1 nL ret rm z) {i : Nat} {a0 a1 : Value} {v : Value} {I1 : wI} {P1 : wP} {rmy : Room} (hM : RT (Kl K) yX1_payer cX1_payer 4 ((some (.object "Hearingpay$Matter"))) rmy (Kg K) z [.ref ((Kg K).2.2 1 i), a0, a1] I P O (dp (some v) I1 P1)) (d : decode cc pc = .ok (.invokevirtual 35, 3)) (hal : wAl z 1 i) (hroom : (rmy.frames + 1 ≤ rm.frames ∧ 8 + (4 + 11) + rmy.locals ≤ rm.locals) ∧ rmy.cells = 0 ∧ rmy.slots = 0) (hcat : (S.map fun v => v.category).sum ≤ 8) (hf : c ≤ rm.cells ∧ n ≤ rm.slots) (hp : pc + 3 = pc') (kk : G K z I1 P1 O c n pc' L (v :: S)) : G K z I P O c n pc L (a1 :: a0 :: .ref ((Kg K).2.2 1 i) :: S) := g_callV C cv_X1_35 hM d hal rfl rfl ⟨rfl, by decide +kernel, by decide +kernel, (by decide +kernel : (parseMethodDescriptor yX1_payer.desc).map (fun d => d.parameters.length) = some 2)⟩ hroom rfl hcat hf hp (fun v1 I2 P2 q => by obtain ⟨rfl, rfl, rfl⟩ := q; exact kk)
theorem k_X3_181 (C : Cx K cc RX3 nL ret rm z) {i : Nat} {a0 : Value} {v : Value} {I1 : wI} {P1 : wP} {rmy : Room} (hM : RT (Kl K) yX2_isOf cX2_isOf 2 ((some .boolean)) rmy (Kg K) z [.ref ((Kg K).2.2 2 i), a0] I P O (dp (some v) I1 P1)) (d : decode cc pc = .ok (.invokevirtual 181, 3)) (hal : wAl z 2 i) (hroom : (rmy.frames + 1 ≤ rm.frames ∧ 8 + (2 + 11) + rmy.locals ≤ rm.locals) ∧ rmy.cells = 0 ∧ rmy.slots = 0) (hcat : (S.map fun v => v.category).sum ≤ 8) (hf : c ≤ rm.cells ∧ n ≤ rm.slots) (hp : pc + 3 = pc') (kk : G K z I1 P1 O c n pc' L (v :: S)) : G K z I P O c n pc L (a0 :: .ref ((Kg K).2.2 2 i) :: S) := g_callV C cv_X3_181 hM d hal rfl rfl ⟨rfl, by decide +kernel, by decide +kernel, (by decide +kernel : (parseMethodDescriptor yX2_isOf.desc).map (fun d => d.parameters.length) = some 1)⟩ hroom rfl hcat hf hp (fun v1 I2 P2 q => by obtain ⟨rfl, rfl, rfl⟩ := q; exact kk)
theorem k_X3_192 (C : Cx K cc RX3 nL ret rm z) {i : Nat} {a0 : Value} {I1 : wI} {P1 : wP} {rmy : Room} (hM : RT (Kl K) yX0_tell cX0_tell 2 (none) rmy (Kg K) z [.ref ((Kg K).2.2 3 i), a0] I P O (dp none I1 P1)) (d : decode cc pc = .ok (.invokevirtual 192, 3)) (hal : wAl z 3 i) (hroom : (rmy.frames + 1 ≤ rm.frames ∧ 8 + (2 + 11) + rmy.locals ≤ rm.locals) ∧ rmy.cells = 0 ∧ rmy.slots = 0) (hcat : (S.map fun v => v.category).sum ≤ 8) (hf : c ≤ rm.cells ∧ n ≤ rm.slots) (hp : pc + 3 = pc') (kk : G K z I1 P1 O c n pc' L (S)) : G K z I P O c n pc L (a0 :: .ref ((Kg K).2.2 3 i) :: S) := g_callV C cv_X3_192 hM d hal rfl rfl ⟨rfl, by decide +kernel, by decide +kernel, (by decide +kernel : (parseMethodDescriptor yX0_tell.desc).map (fun d => d.parameters.length) = some 1)⟩ hroom rfl hcat hf hp (fun v1 I2 P2 q => by obtain ⟨rfl, rfl, rfl⟩ := q; exact kk)
theorem k_X3_200 (C : Cx K cc RX3 nL ret rm z) {i : Nat} {v : Value} {I1 : wI} {P1 : wP} {rmy : Room} (hM : RT (Kl K) yX3_endHearings cX3_endHearings 4 ((some .int)) rmy (Kg K) z [.ref ((Kg K).2.2 0 i)] I P O (dp (some v) I1 P1)) (d : decode cc pc = .ok (.invokevirtual 200, 3)) (hal : wAl z 0 i) (hroom : (rmy.frames + 1 ≤ rm.frames ∧ 8 + (4 + 11) + rmy.locals ≤ rm.locals) ∧ rmy.cells = 0 ∧ rmy.slots = 0) (hcat : (S.map fun v => v.category).sum ≤ 8) (hf : c ≤ rm.cells ∧ n ≤ rm.slots) (hp : pc + 3 = pc') (kk : G K z I1 P1 O c n pc' L (v :: S)) : G K z I P O c n pc L (.ref ((Kg K).2.2 0 i) :: S) := g_callV C cv_X3_200 hM d hal rfl rfl ⟨rfl, by decide +kernel, by decide +kernel, (by decide +kernel : (parseMethodDescriptor yX3_endHearings.desc).map (fun d => d.parameters.length) = some 0)⟩ hroom rfl hcat hf hp (fun v1 I2 P2 q => by obtain ⟨rfl, rfl, rfl⟩ := q; exact kk)
theorem k_X3_279 (C : Cx K cc RX3 nL ret rm z) {i : Nat} {I1 : wI} {P1 : wP} {rmy : Room} (hM : RT (Kl K) yX0_end cX0_end 1 (none) rmy (Kg K) z [.ref ((Kg K).2.2 3 i)] I P O (dp none I1 P1)) (d : decode cc pc = .ok (.invokevirtual 279, 3)) (hal : wAl z 3 i) (hroom : (rmy.frames + 1 ≤ rm.frames ∧ 8 + (1 + 11) + rmy.locals ≤ rm.locals) ∧ rmy.cells = 0 ∧ rmy.slots = 0) (hcat : (S.map fun v => v.category).sum ≤ 8) (hf : c ≤ rm.cells ∧ n ≤ rm.slots) (hp : pc + 3 = pc') (kk : G K z I1 P1 O c n pc' L (S)) : G K z I P O c n pc L (.ref ((Kg K).2.2 3 i) :: S) := g_callV C cv_X3_279 hM d hal rfl rfl ⟨rfl, by decide +kernel, by decide +kernel, (by decide +kernel : (parseMethodDescriptor yX0_end.desc).map (fun d => d.parameters.length) = some 0)⟩ hroom rfl hcat hf hp (fun v1 I2 P2 q => by obtain ⟨rfl, rfl, rfl⟩ := q; exact kk)
theorem k_X0_64 (C : Cx K cc RX0 nL ret rm z) {i : Nat} {v : Value} {I1 : wI} {P1 : wP} {rmy : Room} (hM : RT (Kl K) yX2_isOpen cX2_isOpen 1 ((some .boolean)) rmy (Kg K) z [.ref ((Kg K).2.2 2 i)] I P O (dp (some v) I1 P1)) (d : decode cc pc = .ok (.invokevirtual 64, 3)) (hal : wAl z 2 i) (hroom : (rmy.frames + 1 ≤ rm.frames ∧ 8 + (1 + 11) + rmy.locals ≤ rm.locals) ∧ rmy.cells = 0 ∧ rmy.slots = 0) (hcat : (S.map fun v => v.category).sum ≤ 8) (hf : c ≤ rm.cells ∧ n ≤ rm.slots) (hp : pc + 3 = pc') (kk : G K z I1 P1 O c n pc' L (v :: S)) : G K z I P O c n pc L (.ref ((Kg K).2.2 2 i) :: S) := g_callV C cv_X0_64 hM d hal rfl rfl ⟨rfl, by decide +kernel, by decide +kernel, (by decide +kernel : (parseMethodDescriptor yX2_isOpen.desc).map (fun d => d.parameters.length) = some 0)⟩ hroom rfl hcat hf hp (fun v1 I2 P2 q => by obtain ⟨rfl, rfl, rfl⟩ := q; exact kk)
theorem k_X3_204 (C : Cx K cc RX3 nL ret rm z) {i : Nat} {I1 : wI} {P1 : wP} {rmy : Room} (hM : RT (Kl K) yX3_runTerms cX3_runTerms 3 (none) rmy (Kg K) z [.ref ((Kg K).2.2 0 i)] I P O (dp none I1 P1)) (d : decode cc pc = .ok (.invokevirtual 204, 3)) (hal : wAl z 0 i) (hroom : (rmy.frames + 1 ≤ rm.frames ∧ 8 + (3 + 11) + rmy.locals ≤ rm.locals) ∧ rmy.cells = 0 ∧ rmy.slots = 0) (hcat : (S.map fun v => v.category).sum ≤ 8) (hf : c ≤ rm.cells ∧ n ≤ rm.slots) (hp : pc + 3 = pc') (kk : G K z I1 P1 O c n pc' L (S)) : G K z I P O c n pc L (.ref ((Kg K).2.2 0 i) :: S) := g_callV C cv_X3_204 hM d hal rfl rfl ⟨rfl, by decide +kernel, by decide +kernel, (by decide +kernel : (parseMethodDescriptor yX3_runTerms.desc).map (fun d => d.parameters.length) = some 0)⟩ hroom rfl hcat hf hp (fun v1 I2 P2 q => by obtain ⟨rfl, rfl, rfl⟩ := q; exact kk)
theorem k_X3_281 (C : Cx K cc RX3 nL ret rm z) {i : Nat} {a0 : Value} {I1 : wI} {P1 : wP} {rmy : Room} (hM : RT (Kl K) yX2_runTerm cX2_runTerm 2 (none) rmy (Kg K) z [.ref ((Kg K).2.2 2 i), a0] I P O (dp none I1 P1)) (d : decode cc pc = .ok (.invokevirtual 281, 3)) (hal : wAl z 2 i) (hroom : (rmy.frames + 1 ≤ rm.frames ∧ 8 + (2 + 11) + rmy.locals ≤ rm.locals) ∧ rmy.cells = 0 ∧ rmy.slots = 0) (hcat : (S.map fun v => v.category).sum ≤ 8) (hf : c ≤ rm.cells ∧ n ≤ rm.slots) (hp : pc + 3 = pc') (kk : G K z I1 P1 O c n pc' L (S)) : G K z I P O c n pc L (a0 :: .ref ((Kg K).2.2 2 i) :: S) := g_callV C cv_X3_281 hM d hal rfl rfl ⟨rfl, by decide +kernel, by decide +kernel, (by decide +kernel : (parseMethodDescriptor yX2_runTerm.desc).map (fun d => d.parameters.length) = some 1)⟩ hroom rfl hcat hf hp (fun v1 I2 P2 q => by obtain ⟨rfl, rfl, rfl⟩ := q; exact kk)
theorem k_X2_36 (C : Cx K cc RX2 nL ret rm z) {i : Nat} {v : Value} {I1 : wI} {P1 : wP} {rmy : Room} (hM : RT (Kl K) yX2_isOpen cX2_isOpen 1 ((some .boolean)) rmy (Kg K) z [.ref ((Kg K).2.2 2 i)] I P O (dp (some v) I1 P1)) (d : decode cc pc = .ok (.invokevirtual 36, 3)) (hal : wAl z 2 i) (hroom : (rmy.frames + 1 ≤ rm.frames ∧ 8 + (1 + 11) + rmy.locals ≤ rm.locals) ∧ rmy.cells = 0 ∧ rmy.slots = 0) (hcat : (S.map fun v => v.category).sum ≤ 8) (hf : c ≤ rm.cells ∧ n ≤ rm.slots) (hp : pc + 3 = pc') (kk : G K z I1 P1 O c n pc' L (v :: S)) : G K z I P O c n pc L (.ref ((Kg K).2.2 2 i) :: S) := g_callV C cv_X2_36 hM d hal rfl rfl ⟨rfl, by decide +kernel, by decide +kernel, (by decide +kernel : (parseMethodDescriptor yX2_isOpen.desc).map (fun d => d.parameters.length) = some 0)⟩ hroom rfl hcat hf hp (fun v1 I2 P2 q => by obtain ⟨rfl, rfl, rfl⟩ := q; exact kk)
theorem k_X3_209 (C : Cx K cc RX3 nL ret rm z) {a0 : Value} {v : Value} {I1 : wI} {P1 : wP} {rmy : Room} (hM : RT (Kl K) yX3_howMany cX3_howMany 1 ((some .int)) rmy (Kg K) z [a0] I P O (dp (some v) I1 P1)) (d : decode cc pc = .ok (.invokestatic 209, 3)) (hroom : (rmy.frames + 1 ≤ rm.frames ∧ 8 + (1 + 11) + rmy.locals ≤ rm.locals) ∧ rmy.cells = 0 ∧ rmy.slots = 0) (hcat : (S.map fun v => v.category).sum ≤ 8) (hf : c ≤ rm.cells ∧ n ≤ rm.slots) (hp : pc + 3 = pc') (kk : G K z I1 P1 O c n pc' L (v :: S)) : G K z I P O c n pc L (a0 :: S) := g_callS C cs_X3_209 hM d ⟨rfl, by decide +kernel, by decide +kernel, (by decide +kernel : (parseMethodDescriptor yX3_howMany.desc).map (fun d => d.parameters.length) = some 1)⟩ hroom rfl hcat hf hp (fun v1 I2 P2 q => by obtain ⟨rfl, rfl, rfl⟩ := q; exact kk)
theorem k_X3_213 (C : Cx K cc RX3 nL ret rm z) {a0 : Value} {v : Value} {I1 : wI} {P1 : wP} {rmy : Room} (hM : RT (Kl K) yX3_isCalendarHour cX3_isCalendarHour 1 ((some .boolean)) rmy (Kg K) z [a0] I P O (dp (some v) I1 P1)) (d : decode cc pc = .ok (.invokestatic 213, 3)) (hroom : (rmy.frames + 1 ≤ rm.frames ∧ 8 + (1 + 11) + rmy.locals ≤ rm.locals) ∧ rmy.cells = 0 ∧ rmy.slots = 0) (hcat : (S.map fun v => v.category).sum ≤ 8) (hf : c ≤ rm.cells ∧ n ≤ rm.slots) (hp : pc + 3 = pc') (kk : G K z I1 P1 O c n pc' L (v :: S)) : G K z I P O c n pc L (a0 :: S) := g_callS C cs_X3_213 hM d ⟨rfl, by decide +kernel, by decide +kernel, (by decide +kernel : (parseMethodDescriptor yX3_isCalendarHour.desc).map (fun d => d.parameters.length) = some 1)⟩ hroom rfl hcat hf hp (fun v1 I2 P2 q => by obtain ⟨rfl, rfl, rfl⟩ := q; exact kk)
theorem k_X3_221 (C : Cx K cc RX3 nL ret rm z) {i : Nat} {a0 a1 : Value} {v : Value} {I1 : wI} {P1 : wP} {rmy : Room} (hM : RT (Kl K) yX0_needs cX0_needs 3 ((some .boolean)) rmy (Kg K) z [.ref ((Kg K).2.2 3 i), a0, a1] I P O (dp (some v) I1 P1)) (d : decode cc pc = .ok (.invokevirtual 221, 3)) (hal : wAl z 3 i) (hroom : (rmy.frames + 1 ≤ rm.frames ∧ 8 + (3 + 11) + rmy.locals ≤ rm.locals) ∧ rmy.cells = 0 ∧ rmy.slots = 0) (hcat : (S.map fun v => v.category).sum ≤ 8) (hf : c ≤ rm.cells ∧ n ≤ rm.slots) (hp : pc + 3 = pc') (kk : G K z I1 P1 O c n pc' L (v :: S)) : G K z I P O c n pc L (a1 :: a0 :: .ref ((Kg K).2.2 3 i) :: S) := g_callV C cv_X3_221 hM d hal rfl rfl ⟨rfl, by decide +kernel, by decide +kernel, (by decide +kernel : (parseMethodDescriptor yX0_needs.desc).map (fun d => d.parameters.length) = some 2)⟩ hroom rfl hcat hf hp (fun v1 I2 P2 q => by obtain ⟨rfl, rfl, rfl⟩ := q; exact kk)
theorem k_X3_236 (C : Cx K cc RX3 nL ret rm z) {i : Nat} {a0 : Value} {v : Value} {I1 : wI} {P1 : wP} {rmy : Room} (hM : RT (Kl K) yX3_paidHoursOf cX3_paidHoursOf 5 ((some .int)) rmy (Kg K) z [.ref ((Kg K).2.2 0 i), a0] I P O (dp (some v) I1 P1)) (d : decode cc pc = .ok (.invokevirtual 236, 3)) (hal : wAl z 0 i) (hroom : (rmy.frames + 1 ≤ rm.frames ∧ 8 + (5 + 11) + rmy.locals ≤ rm.locals) ∧ rmy.cells = 0 ∧ rmy.slots = 0) (hcat : (S.map fun v => v.category).sum ≤ 8) (hf : c ≤ rm.cells ∧ n ≤ rm.slots) (hp : pc + 3 = pc') (kk : G K z I1 P1 O c n pc' L (v :: S)) : G K z I P O c n pc L (a0 :: .ref ((Kg K).2.2 0 i) :: S) := g_callV C cv_X3_236 hM d hal rfl rfl ⟨rfl, by decide +kernel, by decide +kernel, (by decide +kernel : (parseMethodDescriptor yX3_paidHoursOf.desc).map (fun d => d.parameters.length) = some 1)⟩ hroom rfl hcat hf hp (fun v1 I2 P2 q => by obtain ⟨rfl, rfl, rfl⟩ := q; exact kk)
theorem k_X3_284 (C : Cx K cc RX3 nL ret rm z) {i : Nat} {a0 a1 : Value} {v : Value} {I1 : wI} {P1 : wP} {rmy : Room} (hM : RT (Kl K) yX1_hoursPaidBy cX1_hoursPaidBy 5 ((some .int)) rmy (Kg K) z [.ref ((Kg K).2.2 1 i), a0, a1] I P O (dp (some v) I1 P1)) (d : decode cc pc = .ok (.invokevirtual 284, 3)) (hal : wAl z 1 i) (hroom : (rmy.frames + 1 ≤ rm.frames ∧ 8 + (5 + 11) + rmy.locals ≤ rm.locals) ∧ rmy.cells = 0 ∧ rmy.slots = 0) (hcat : (S.map fun v => v.category).sum ≤ 8) (hf : c ≤ rm.cells ∧ n ≤ rm.slots) (hp : pc + 3 = pc') (kk : G K z I1 P1 O c n pc' L (v :: S)) : G K z I P O c n pc L (a1 :: a0 :: .ref ((Kg K).2.2 1 i) :: S) := g_callV C cv_X3_284 hM d hal rfl rfl ⟨rfl, by decide +kernel, by decide +kernel, (by decide +kernel : (parseMethodDescriptor yX1_hoursPaidBy.desc).map (fun d => d.parameters.length) = some 2)⟩ hroom rfl hcat hf hp (fun v1 I2 P2 q => by obtain ⟨rfl, rfl, rfl⟩ := q; exact kk)
theorem k_X3_245 (C : Cx K cc RX3 nL ret rm z) {i : Nat} {v : Value} {I1 : wI} {P1 : wP} {rmy : Room} (hM : RT (Kl K) yX0_notices cX0_notices 1 ((some .int)) rmy (Kg K) z [.ref ((Kg K).2.2 3 i)] I P O (dp (some v) I1 P1)) (d : decode cc pc = .ok (.invokevirtual 245, 3)) (hal : wAl z 3 i) (hroom : (rmy.frames + 1 ≤ rm.frames ∧ 8 + (1 + 11) + rmy.locals ≤ rm.locals) ∧ rmy.cells = 0 ∧ rmy.slots = 0) (hcat : (S.map fun v => v.category).sum ≤ 8) (hf : c ≤ rm.cells ∧ n ≤ rm.slots) (hp : pc + 3 = pc') (kk : G K z I1 P1 O c n pc' L (v :: S)) : G K z I P O c n pc L (.ref ((Kg K).2.2 3 i) :: S) := g_callV C cv_X3_245 hM d hal rfl rfl ⟨rfl, by decide +kernel, by decide +kernel, (by decide +kernel : (parseMethodDescriptor yX0_notices.desc).map (fun d => d.parameters.length) = some 0)⟩ hroom rfl hcat hf hp (fun v1 I2 P2 q => by obtain ⟨rfl, rfl, rfl⟩ := q; exact kk)
theorem k_X3_253 (C : Cx K cc RX3 nL ret rm z) {i : Nat} {a0 a1 : Value} {v : Value} {I1 : wI} {P1 : wP} {rmy : Room} (hM : RT (Kl K) yX1_payer cX1_payer 4 ((some (.object "Hearingpay$Matter"))) rmy (Kg K) z [.ref ((Kg K).2.2 1 i), a0, a1] I P O (dp (some v) I1 P1)) (d : decode cc pc = .ok (.invokevirtual 253, 3)) (hal : wAl z 1 i) (hroom : (rmy.frames + 1 ≤ rm.frames ∧ 8 + (4 + 11) + rmy.locals ≤ rm.locals) ∧ rmy.cells = 0 ∧ rmy.slots = 0) (hcat : (S.map fun v => v.category).sum ≤ 8) (hf : c ≤ rm.cells ∧ n ≤ rm.slots) (hp : pc + 3 = pc') (kk : G K z I1 P1 O c n pc' L (v :: S)) : G K z I P O c n pc L (a1 :: a0 :: .ref ((Kg K).2.2 1 i) :: S) := g_callV C cv_X3_253 hM d hal rfl rfl ⟨rfl, by decide +kernel, by decide +kernel, (by decide +kernel : (parseMethodDescriptor yX1_payer.desc).map (fun d => d.parameters.length) = some 2)⟩ hroom rfl hcat hf hp (fun v1 I2 P2 q => by obtain ⟨rfl, rfl, rfl⟩ := q; exact kk)
theorem k_X4_78 (C : Cx K cc RX4 nL ret rm z) {a0 a1 a2 : Value} {v : Value} {I1 : wI} {P1 : wP} {rmy : Room} (hM : RT (Kl K) yX4_in cX4_in 3 ((some .boolean)) rmy (Kg K) z [a0, a1, a2] I P O (dp (some v) I1 P1)) (d : decode cc pc = .ok (.invokestatic 78, 3)) (hroom : (rmy.frames + 1 ≤ rm.frames ∧ 8 + (3 + 11) + rmy.locals ≤ rm.locals) ∧ rmy.cells = 0 ∧ rmy.slots = 0) (hcat : (S.map fun v => v.category).sum ≤ 8) (hf : c ≤ rm.cells ∧ n ≤ rm.slots) (hp : pc + 3 = pc') (kk : G K z I1 P1 O c n pc' L (v :: S)) : G K z I P O c n pc L (a2 :: a1 :: a0 :: S) := g_callS C cs_X4_78 hM d ⟨rfl, by decide +kernel, by decide +kernel, (by decide +kernel : (parseMethodDescriptor yX4_in.desc).map (fun d => d.parameters.length) = some 3)⟩ hroom rfl hcat hf hp (fun v1 I2 P2 q => by obtain ⟨rfl, rfl, rfl⟩ := q; exact kk)
theorem k_X4_88 (C : Cx K cc RX4 nL ret rm z) {i : Nat} {a0 : Value} {v : Value} {I1 : wI} {P1 : wP} {rmy : Room} (hM : RT (Kl K) yX4_isMatter cX4_isMatter 2 ((some .boolean)) rmy (Kg K) z [.ref ((Kg K).2.2 12 i), a0] I P O (dp (some v) I1 P1)) (d : decode cc pc = .ok (.invokevirtual 88, 3)) (hal : wAl z 12 i) (hroom : (rmy.frames + 1 ≤ rm.frames ∧ 8 + (2 + 11) + rmy.locals ≤ rm.locals) ∧ rmy.cells = 0 ∧ rmy.slots = 0) (hcat : (S.map fun v => v.category).sum ≤ 8) (hf : c ≤ rm.cells ∧ n ≤ rm.slots) (hp : pc + 3 = pc') (kk : G K z I1 P1 O c n pc' L (v :: S)) : G K z I P O c n pc L (a0 :: .ref ((Kg K).2.2 12 i) :: S) := g_callV C cv_X4_88 hM d hal rfl rfl ⟨rfl, by decide +kernel, by decide +kernel, (by decide +kernel : (parseMethodDescriptor yX4_isMatter.desc).map (fun d => d.parameters.length) = some 1)⟩ hroom rfl hcat hf hp (fun v1 I2 P2 q => by obtain ⟨rfl, rfl, rfl⟩ := q; exact kk)
theorem k_X4_92 (C : Cx K cc RX4 nL ret rm z) {i : Nat} {a0 : Value} {I1 : wI} {P1 : wP} {rmy : Room} (hM : RT (Kl K) yX4_leaves cX4_leaves 5 (none) rmy (Kg K) z [.ref ((Kg K).2.2 12 i), a0] I P O (dp none I1 P1)) (d : decode cc pc = .ok (.invokevirtual 92, 3)) (hal : wAl z 12 i) (hroom : (rmy.frames + 1 ≤ rm.frames ∧ 8 + (5 + 11) + rmy.locals ≤ rm.locals) ∧ rmy.cells = 0 ∧ rmy.slots = 0) (hcat : (S.map fun v => v.category).sum ≤ 8) (hf : c ≤ rm.cells ∧ n ≤ rm.slots) (hp : pc + 3 = pc') (kk : G K z I1 P1 O c n pc' L (S)) : G K z I P O c n pc L (a0 :: .ref ((Kg K).2.2 12 i) :: S) := g_callV C cv_X4_92 hM d hal rfl rfl ⟨rfl, by decide +kernel, by decide +kernel, (by decide +kernel : (parseMethodDescriptor yX4_leaves.desc).map (fun d => d.parameters.length) = some 1)⟩ hroom rfl hcat hf hp (fun v1 I2 P2 q => by obtain ⟨rfl, rfl, rfl⟩ := q; exact kk)
theorem k_X4_104 (C : Cx K cc RX4 nL ret rm z) {a0 : Value} {v : Value} {I1 : wI} {P1 : wP} {rmy : Room} (hM : RT (Kl K) yX4_isSpeaker cX4_isSpeaker 1 ((some .boolean)) rmy (Kg K) z [a0] I P O (dp (some v) I1 P1)) (d : decode cc pc = .ok (.invokestatic 104, 3)) (hroom : (rmy.frames + 1 ≤ rm.frames ∧ 8 + (1 + 11) + rmy.locals ≤ rm.locals) ∧ rmy.cells = 0 ∧ rmy.slots = 0) (hcat : (S.map fun v => v.category).sum ≤ 8) (hf : c ≤ rm.cells ∧ n ≤ rm.slots) (hp : pc + 3 = pc') (kk : G K z I1 P1 O c n pc' L (v :: S)) : G K z I P O c n pc L (a0 :: S) := g_callS C cs_X4_104 hM d ⟨rfl, by decide +kernel, by decide +kernel, (by decide +kernel : (parseMethodDescriptor yX4_isSpeaker.desc).map (fun d => d.parameters.length) = some 1)⟩ hroom rfl hcat hf hp (fun v1 I2 P2 q => by obtain ⟨rfl, rfl, rfl⟩ := q; exact kk)
theorem k_X4_107 (C : Cx K cc RX4 nL ret rm z) {i : Nat} {a0 : Value} {v : Value} {I1 : wI} {P1 : wP} {rmy : Room} (hM : RT (Kl K) yX4_isOpen cX4_isOpen 2 ((some .boolean)) rmy (Kg K) z [.ref ((Kg K).2.2 12 i), a0] I P O (dp (some v) I1 P1)) (d : decode cc pc = .ok (.invokevirtual 107, 3)) (hal : wAl z 12 i) (hroom : (rmy.frames + 1 ≤ rm.frames ∧ 8 + (2 + 11) + rmy.locals ≤ rm.locals) ∧ rmy.cells = 0 ∧ rmy.slots = 0) (hcat : (S.map fun v => v.category).sum ≤ 8) (hf : c ≤ rm.cells ∧ n ≤ rm.slots) (hp : pc + 3 = pc') (kk : G K z I1 P1 O c n pc' L (v :: S)) : G K z I P O c n pc L (a0 :: .ref ((Kg K).2.2 12 i) :: S) := g_callV C cv_X4_107 hM d hal rfl rfl ⟨rfl, by decide +kernel, by decide +kernel, (by decide +kernel : (parseMethodDescriptor yX4_isOpen.desc).map (fun d => d.parameters.length) = some 1)⟩ hroom rfl hcat hf hp (fun v1 I2 P2 q => by obtain ⟨rfl, rfl, rfl⟩ := q; exact kk)
theorem k_X4_110 (C : Cx K cc RX4 nL ret rm z) {i : Nat} {a0 a1 : Value} {v : Value} {I1 : wI} {P1 : wP} {rmy : Room} (hM : RT (Kl K) yX4_fits cX4_fits 3 ((some .boolean)) rmy (Kg K) z [.ref ((Kg K).2.2 12 i), a0, a1] I P O (dp (some v) I1 P1)) (d : decode cc pc = .ok (.invokevirtual 110, 3)) (hal : wAl z 12 i) (hroom : (rmy.frames + 1 ≤ rm.frames ∧ 8 + (3 + 11) + rmy.locals ≤ rm.locals) ∧ rmy.cells = 0 ∧ rmy.slots = 0) (hcat : (S.map fun v => v.category).sum ≤ 8) (hf : c ≤ rm.cells ∧ n ≤ rm.slots) (hp : pc + 3 = pc') (kk : G K z I1 P1 O c n pc' L (v :: S)) : G K z I P O c n pc L (a1 :: a0 :: .ref ((Kg K).2.2 12 i) :: S) := g_callV C cv_X4_110 hM d hal rfl rfl ⟨rfl, by decide +kernel, by decide +kernel, (by decide +kernel : (parseMethodDescriptor yX4_fits.desc).map (fun d => d.parameters.length) = some 2)⟩ hroom rfl hcat hf hp (fun v1 I2 P2 q => by obtain ⟨rfl, rfl, rfl⟩ := q; exact kk)
theorem k_X4_114 (C : Cx K cc RX4 nL ret rm z) {i : Nat} {a0 a1 a2 a3 a4 a5 : Value} {v : Value} {I1 : wI} {P1 : wP} {rmy : Room} (hM : RT (Kl K) yX4_reason cX4_reason 8 ((some .int)) rmy (Kg K) z [.ref ((Kg K).2.2 12 i), a0, a1, a2, a3, a4, a5] I P O (dp (some v) I1 P1)) (d : decode cc pc = .ok (.invokevirtual 114, 3)) (hal : wAl z 12 i) (hroom : (rmy.frames + 1 ≤ rm.frames ∧ 8 + (8 + 11) + rmy.locals ≤ rm.locals) ∧ rmy.cells = 0 ∧ rmy.slots = 0) (hcat : (S.map fun v => v.category).sum ≤ 8) (hf : c ≤ rm.cells ∧ n ≤ rm.slots) (hp : pc + 3 = pc') (kk : G K z I1 P1 O c n pc' L (v :: S)) : G K z I P O c n pc L (a5 :: a4 :: a3 :: a2 :: a1 :: a0 :: .ref ((Kg K).2.2 12 i) :: S) := g_callV C cv_X4_114 hM d hal rfl rfl ⟨rfl, by decide +kernel, by decide +kernel, (by decide +kernel : (parseMethodDescriptor yX4_reason.desc).map (fun d => d.parameters.length) = some 6)⟩ hroom rfl hcat hf hp (fun v1 I2 P2 q => by obtain ⟨rfl, rfl, rfl⟩ := q; exact kk)
theorem k_X4_100 (C : Cx K cc RX4 nL ret rm z) {i : Nat} {a0 a1 a2 a3 a4 a5 a6 : Value} {v : Value} {I1 : wI} {P1 : wP} {rmy : Room} (hM : RT (Kl K) yX4_clashes cX4_clashes 12 ((some .boolean)) rmy (Kg K) z [.ref ((Kg K).2.2 12 i), a0, a1, a2, a3, a4, a5, a6] I P O (dp (some v) I1 P1)) (d : decode cc pc = .ok (.invokevirtual 100, 3)) (hal : wAl z 12 i) (hroom : (rmy.frames + 1 ≤ rm.frames ∧ 8 + (12 + 11) + rmy.locals ≤ rm.locals) ∧ rmy.cells = 0 ∧ rmy.slots = 0) (hcat : (S.map fun v => v.category).sum ≤ 8) (hf : c ≤ rm.cells ∧ n ≤ rm.slots) (hp : pc + 3 = pc') (kk : G K z I1 P1 O c n pc' L (v :: S)) : G K z I P O c n pc L (a6 :: a5 :: a4 :: a3 :: a2 :: a1 :: a0 :: .ref ((Kg K).2.2 12 i) :: S) := g_callV C cv_X4_100 hM d hal rfl rfl ⟨rfl, by decide +kernel, by decide +kernel, (by decide +kernel : (parseMethodDescriptor yX4_clashes.desc).map (fun d => d.parameters.length) = some 7)⟩ hroom rfl hcat hf hp (fun v1 I2 P2 q => by obtain ⟨rfl, rfl, rfl⟩ := q; exact kk)
theorem k_X4_96 (C : Cx K cc RX4 nL ret rm z) {a0 a1 a2 a3 : Value} {v : Value} {I1 : wI} {P1 : wP} {rmy : Room} (hM : RT (Kl K) yX4_meets cX4_meets 4 ((some .boolean)) rmy (Kg K) z [a0, a1, a2, a3] I P O (dp (some v) I1 P1)) (d : decode cc pc = .ok (.invokestatic 96, 3)) (hroom : (rmy.frames + 1 ≤ rm.frames ∧ 8 + (4 + 11) + rmy.locals ≤ rm.locals) ∧ rmy.cells = 0 ∧ rmy.slots = 0) (hcat : (S.map fun v => v.category).sum ≤ 8) (hf : c ≤ rm.cells ∧ n ≤ rm.slots) (hp : pc + 3 = pc') (kk : G K z I1 P1 O c n pc' L (v :: S)) : G K z I P O c n pc L (a3 :: a2 :: a1 :: a0 :: S) := g_callS C cs_X4_96 hM d ⟨rfl, by decide +kernel, by decide +kernel, (by decide +kernel : (parseMethodDescriptor yX4_meets.desc).map (fun d => d.parameters.length) = some 4)⟩ hroom rfl hcat hf hp (fun v1 I2 P2 q => by obtain ⟨rfl, rfl, rfl⟩ := q; exact kk)
theorem k_X4_118 (C : Cx K cc RX4 nL ret rm z) {i : Nat} {a0 : Value} {I1 : wI} {P1 : wP} {rmy : Room} (hM : RT (Kl K) yX4_comes cX4_comes 7 (none) rmy (Kg K) z [.ref ((Kg K).2.2 12 i), a0] I P O (dp none I1 P1)) (d : decode cc pc = .ok (.invokevirtual 118, 3)) (hal : wAl z 12 i) (hroom : (rmy.frames + 1 ≤ rm.frames ∧ 8 + (7 + 11) + rmy.locals ≤ rm.locals) ∧ rmy.cells = 0 ∧ rmy.slots = 0) (hcat : (S.map fun v => v.category).sum ≤ 8) (hf : c ≤ rm.cells ∧ n ≤ rm.slots) (hp : pc + 3 = pc') (kk : G K z I1 P1 O c n pc' L (S)) : G K z I P O c n pc L (a0 :: .ref ((Kg K).2.2 12 i) :: S) := g_callV C cv_X4_118 hM d hal rfl rfl ⟨rfl, by decide +kernel, by decide +kernel, (by decide +kernel : (parseMethodDescriptor yX4_comes.desc).map (fun d => d.parameters.length) = some 1)⟩ hroom rfl hcat hf hp (fun v1 I2 P2 q => by obtain ⟨rfl, rfl, rfl⟩ := q; exact kk)
theorem k_X4_121 (C : Cx K cc RX4 nL ret rm z) {i : Nat} {a0 : Value} {v : Value} {I1 : wI} {P1 : wP} {rmy : Room} (hM : RT (Kl K) yX4_isHearing cX4_isHearing 2 ((some .boolean)) rmy (Kg K) z [.ref ((Kg K).2.2 12 i), a0] I P O (dp (some v) I1 P1)) (d : decode cc pc = .ok (.invokevirtual 121, 3)) (hal : wAl z 12 i) (hroom : (rmy.frames + 1 ≤ rm.frames ∧ 8 + (2 + 11) + rmy.locals ≤ rm.locals) ∧ rmy.cells = 0 ∧ rmy.slots = 0) (hcat : (S.map fun v => v.category).sum ≤ 8) (hf : c ≤ rm.cells ∧ n ≤ rm.slots) (hp : pc + 3 = pc') (kk : G K z I1 P1 O c n pc' L (v :: S)) : G K z I P O c n pc L (a0 :: .ref ((Kg K).2.2 12 i) :: S) := g_callV C cv_X4_121 hM d hal rfl rfl ⟨rfl, by decide +kernel, by decide +kernel, (by decide +kernel : (parseMethodDescriptor yX4_isHearing.desc).map (fun d => d.parameters.length) = some 1)⟩ hroom rfl hcat hf hp (fun v1 I2 P2 q => by obtain ⟨rfl, rfl, rfl⟩ := q; exact kk)
theorem k_X4_124 (C : Cx K cc RX4 nL ret rm z) {i : Nat} {v : Value} {I1 : wI} {P1 : wP} {rmy : Room} (hM : RT (Kl K) yX4_ends cX4_ends 4 ((some .int)) rmy (Kg K) z [.ref ((Kg K).2.2 12 i)] I P O (dp (some v) I1 P1)) (d : decode cc pc = .ok (.invokevirtual 124, 3)) (hal : wAl z 12 i) (hroom : (rmy.frames + 1 ≤ rm.frames ∧ 8 + (4 + 11) + rmy.locals ≤ rm.locals) ∧ rmy.cells = 0 ∧ rmy.slots = 0) (hcat : (S.map fun v => v.category).sum ≤ 8) (hf : c ≤ rm.cells ∧ n ≤ rm.slots) (hp : pc + 3 = pc') (kk : G K z I1 P1 O c n pc' L (v :: S)) : G K z I P O c n pc L (.ref ((Kg K).2.2 12 i) :: S) := g_callV C cv_X4_124 hM d hal rfl rfl ⟨rfl, by decide +kernel, by decide +kernel, (by decide +kernel : (parseMethodDescriptor yX4_ends.desc).map (fun d => d.parameters.length) = some 0)⟩ hroom rfl hcat hf hp (fun v1 I2 P2 q => by obtain ⟨rfl, rfl, rfl⟩ := q; exact kk)
theorem k_X4_128 (C : Cx K cc RX4 nL ret rm z) {i : Nat} {a0 : Value} {v : Value} {I1 : wI} {P1 : wP} {rmy : Room} (hM : RT (Kl K) yX4_toCome cX4_toCome 5 ((some .int)) rmy (Kg K) z [.ref ((Kg K).2.2 12 i), a0] I P O (dp (some v) I1 P1)) (d : decode cc pc = .ok (.invokevirtual 128, 3)) (hal : wAl z 12 i) (hroom : (rmy.frames + 1 ≤ rm.frames ∧ 8 + (5 + 11) + rmy.locals ≤ rm.locals) ∧ rmy.cells = 0 ∧ rmy.slots = 0) (hcat : (S.map fun v => v.category).sum ≤ 8) (hf : c ≤ rm.cells ∧ n ≤ rm.slots) (hp : pc + 3 = pc') (kk : G K z I1 P1 O c n pc' L (v :: S)) : G K z I P O c n pc L (a0 :: .ref ((Kg K).2.2 12 i) :: S) := g_callV C cv_X4_128 hM d hal rfl rfl ⟨rfl, by decide +kernel, by decide +kernel, (by decide +kernel : (parseMethodDescriptor yX4_toCome.desc).map (fun d => d.parameters.length) = some 1)⟩ hroom rfl hcat hf hp (fun v1 I2 P2 q => by obtain ⟨rfl, rfl, rfl⟩ := q; exact kk)
end WFields
end
section
section WLeaf
def b2 (b : Bool) : Int32 := bif b then 1 else 0
theorem b2_0 {b : Bool} : b2 b = 0 ↔ b = false := by cases b <;> decide
theorem b2_1 {b : Bool} : ¬ b2 b = 0 ↔ b = true := by cases b <;> decide
theorem b2_n (b : Bool) : narrow .boolean (.int (b2 b)) = .int (b2 b) := by cases b <;> rfl
theorem ii1 (x : Int32) : x + Int32.ofInt 1 = x + 1 := by rw [show Int32.ofInt 1 = 1 from by decide]
def isOp (s : Int32) : Bool := decide (s = 0) || decide (s = 1)
def rT (I : wI) (m : Nat) (now : Int32) : wI := if I 2 m 5 = 3 then upI I 2 m 7 (I 2 m 7 + 1) else if isOp (I 2 m 5) = true ∧ ¬ now < I 2 m 7 then upI I 2 m 5 5 else I
def sA (I : wI) (h : Nat) (r i f : Int32) : wI := upI (upI (upI (upI (upI I 3 h 5 r) 3 h 6 i) 3 h 7 f) 3 h 8 0) 3 h 9 0
def tp (I : wI) (h : Nat) (fr oh : Int32) : Bool := decide (I 3 h 4 = 0) && (!decide (fr + oh ≤ I 3 h 7) && !decide (I 3 h 7 + I 3 h 2 ≤ fr))
def nd (I : wI) (m h : Nat) (what who : Int32) : Bool := if what = 0 then decide (I 3 h 5 = who) else if what = 1 then decide (I 2 m 1 = who) else if what = 2 then (decide (who = I 2 m 2) || decide (who = I 2 m 3)) else decide (I 3 h 6 = who)
def ra (I : wI) (m h m2 : Nat) (r itp : Int32) : Int32 := if nd I m h 0 r = true then 1 else if nd I m h 1 (I 2 m2 1) = true then 2 else if nd I m h 2 (I 2 m2 2) = true ∨ nd I m h 2 (I 2 m2 3) = true then 3 else if ¬ itp = -1 ∧ nd I m h 3 itp = true then 4 else 0
def tl1 (I : wI) (m h : Nat) (p : Int32) : wI := if p = I 2 m 2 then upI I 3 h 8 1 else I
def tl (I : wI) (m h : Nat) (p : Int32) : wI := if p = I 2 m 3 then upI (tl1 I m h p) 3 h 9 1 else tl1 I m h p
def ntc (I : wI) (h : Nat) : Int32 := (if I 3 h 8 = 0 then 0 else 1) + (if I 3 h 9 = 0 then 0 else 1)
def chg (I : wI) (h : Nat) : Int32 := 0 + I 11 h 0 + I 11 h 1 + I 11 h 2 + I 11 h 3
def hE (I : wI) (m h : Nat) : wI := if isOp (I 2 m 5) = true ∧ ¬ I 3 h 8 = 0 ∧ ¬ I 3 h 9 = 0 then upI (upI I 3 h 4 1) 2 m 5 1 else upI I 3 h 4 2
def rg (x : Int32) : Nat := (x &&& 15).toNatClampNeg
theorem rg_of (x : Int32) : ∃ j : Nat, j < 16 ∧ x &&& 15 = nI j := by
  obtain ⟨j, h1, h2⟩ := pk_andE x (m := 15) 4 (by decide)
  exact ⟨j, h1, h2⟩
theorem rg_eq (x : Int32) : x &&& 15 = nI (rg x) := by
  obtain ⟨j, h1, h2⟩ := rg_of x
  unfold rg
  rw [h2, nI_clamp (by omega)]
theorem rg_lt (x : Int32) : rg x < 16 := by
  obtain ⟨j, h1, h2⟩ := rg_of x
  unfold rg
  rw [h2, nI_clamp (by omega)]
  exact h1
def kn (I : wI) (i : Nat) (l : Int32) : Bool := decide ((I 1 i 0 >>> (l &&& 31)) &&& 1 = 1)
def py (I : wI) (P : wP) (i : Nat) (hour now : Int32) : Option Nat := if ¬ hour ≤ now ∧ I 8 i (rg hour) = hour then P 9 i (rg hour) else none
def kpI (I : wI) (i : Nat) (hour amt : Int32) : wI := upI (upI I 8 i (rg hour) hour) 10 i (rg hour) amt
def kpP (P : wP) (i m : Nat) (hour : Int32) : wP := upP P 9 i (rg hour) (some m)
def tkR (I : wI) (P : wP) (i m : Nat) (hour now : Int32) : Int32 := match py I P i hour now with
  | none => I 1 i 1
  | some q => if q = m then 0 else I 10 i (rg hour) / 2
def tkI (I : wI) (P : wP) (i m : Nat) (hour now : Int32) : wI := match py I P i hour now with
  | none => I
  | some q => if q = m then I else upI I 2 q 6 (I 2 q 6 + I 10 i (rg hour) / 2)
def tkP (I : wI) (P : wP) (i : Nat) (hour now : Int32) : wP := match py I P i hour now with
  | none => P
  | some _ => upP P 9 i (rg hour) none
def hpL (I : wI) (P : wP) (i m : Nat) (now : Int32) : Nat → Nat → Int32 → Int32
  | 0, _, x => x
  | n + 1, k, x => hpL I P i m now n (k + 1) (if P 9 i k = some m ∧ ¬ I 8 i k ≤ now then x + 1 else x)
theorem tsw2 (x : Int32) : x = 0 ∨ x = 1 ∨ x = 2 ∨ (x.toInt < 0 ∨ 2 < x.toInt) := by
  by_cases h : x.toInt < 0 ∨ 2 < x.toInt
  · exact Or.inr (Or.inr (Or.inr h))
  · have h3 : x.toInt = 0 ∨ x.toInt = 1 ∨ x.toInt = 2 := by omega
    rcases h3 with h3 | h3 | h3
    · exact Or.inl (Int32.toInt_inj.mp h3)
    · exact Or.inr (Or.inl (Int32.toInt_inj.mp h3))
    · exact Or.inr (Or.inr (Or.inl (Int32.toInt_inj.mp h3)))
set_option maxRecDepth 20000 in
theorem m_X2_isOpen {l : Launch} {g : wG} {z : wZ} {I : wI} {P : wP} {O : wO} {m : Nat} (hm2 : wAl z 2 m) : RT l yX2_isOpen cX2_isOpen 1 ((some .boolean)) { frames := 0, cells := 0, slots := 0, locals := 0 } g z [.ref (g.2.2 2 m)] I P O (dp (some (.int (b2 (isOp (I 2 m 5))))) (I) (P)) := by
  refine RT.of (own := RX2) rfl (by decide +kernel) (Nat.le_of_ble_eq_true rfl) rfl (fun K C hl hg hR => ?_)
  subst hl
  subst hg
  refine g_aload_n (pc' := 1) C dX2_isOpen_0 rfl rfl ?_
  refine f_X2_9 (pc' := 4) C dX2_isOpen_1 (by first | assumption | exact rfl | exact al13 rfl | exact Nat.le_of_ble_eq_true rfl) rfl ?_
  refine g_if_eq (tgt := 15) (pc' := 7) C dX2_isOpen_4 (by decide) rfl (fun c1 => ?_) (fun c1 => ?_)
  ·
    refine g_iconst (v := 1) (pc' := 16) C dX2_isOpen_15 (by decide) rfl ?_
    refine g_goto (tgt := 20) C dX2_isOpen_16 (by decide) ?_
    exact g_zret C hR dX2_isOpen_20 rfl ⟨by simp [b2, isOp, c1], rfl, rfl⟩
  ·
    refine g_aload_n (pc' := 8) C dX2_isOpen_7 rfl rfl ?_
    refine f_X2_9 (pc' := 11) C dX2_isOpen_8 (by first | assumption | exact rfl | exact al13 rfl | exact Nat.le_of_ble_eq_true rfl) rfl ?_
    refine g_iconst (v := 1) (pc' := 12) C dX2_isOpen_11 (by decide) rfl ?_
    refine g_icmp_ne (tgt := 19) (pc' := 15) C dX2_isOpen_12 (by decide) rfl (fun c2 => ?_) (fun c2 => ?_)
    ·
      refine g_iconst (v := 0) (pc' := 20) C dX2_isOpen_19 (by decide) rfl ?_
      exact g_zret C hR dX2_isOpen_20 rfl ⟨by simp [b2, isOp, c1, c2], rfl, rfl⟩
    ·
      refine g_iconst (v := 1) (pc' := 16) C dX2_isOpen_15 (by decide) rfl ?_
      refine g_goto (tgt := 20) C dX2_isOpen_16 (by decide) ?_
      exact g_zret C hR dX2_isOpen_20 rfl ⟨by simp [b2, isOp, c1, c2], rfl, rfl⟩
set_option maxRecDepth 20000 in
theorem m_X2_isOf {l : Launch} {g : wG} {z : wZ} {I : wI} {P : wP} {O : wO} {m : Nat} {x : Int32} (hm2 : wAl z 2 m) : RT l yX2_isOf cX2_isOf 2 ((some .boolean)) { frames := 0, cells := 0, slots := 0, locals := 0 } g z [.ref (g.2.2 2 m), .int x] I P O (dp (some (.int (b2 (decide (x = I 2 m 2) || decide (x = I 2 m 3))))) (I) (P)) := by
  refine RT.of (own := RX2) rfl (by decide +kernel) (Nat.le_of_ble_eq_true rfl) rfl (fun K C hl hg hR => ?_)
  subst hl
  subst hg
  refine g_iload_n (pc' := 1) C dX2_isOf_0 rfl rfl ?_
  refine g_aload_n (pc' := 2) C dX2_isOf_1 rfl rfl ?_
  refine f_X2_24 (pc' := 5) C dX2_isOf_2 (by first | assumption | exact rfl | exact al13 rfl | exact Nat.le_of_ble_eq_true rfl) rfl ?_
  refine g_icmp_eq (tgt := 16) (pc' := 8) C dX2_isOf_5 (by decide) rfl (fun c1 => ?_) (fun c1 => ?_)
  ·
    refine g_iconst (v := 1) (pc' := 17) C dX2_isOf_16 (by decide) rfl ?_
    refine g_goto (tgt := 21) C dX2_isOf_17 (by decide) ?_
    exact g_zret C hR dX2_isOf_21 rfl ⟨by simp [b2, isOp, c1], rfl, rfl⟩
  ·
    refine g_iload_n (pc' := 9) C dX2_isOf_8 rfl rfl ?_
    refine g_aload_n (pc' := 10) C dX2_isOf_9 rfl rfl ?_
    refine f_X2_27 (pc' := 13) C dX2_isOf_10 (by first | assumption | exact rfl | exact al13 rfl | exact Nat.le_of_ble_eq_true rfl) rfl ?_
    refine g_icmp_ne (tgt := 20) (pc' := 16) C dX2_isOf_13 (by decide) rfl (fun c2 => ?_) (fun c2 => ?_)
    ·
      refine g_iconst (v := 0) (pc' := 21) C dX2_isOf_20 (by decide) rfl ?_
      exact g_zret C hR dX2_isOf_21 rfl ⟨by simp [b2, isOp, c1, c2], rfl, rfl⟩
    ·
      refine g_iconst (v := 1) (pc' := 17) C dX2_isOf_16 (by decide) rfl ?_
      refine g_goto (tgt := 21) C dX2_isOf_17 (by decide) ?_
      exact g_zret C hR dX2_isOf_21 rfl ⟨by simp [b2, isOp, c1, c2], rfl, rfl⟩
set_option maxRecDepth 20000 in
theorem m_X2_runTerm {l : Launch} {g : wG} {z : wZ} {I : wI} {P : wP} {O : wO} {m : Nat} {x : Int32} (hm2 : wAl z 2 m) : RT l yX2_runTerm cX2_runTerm 2 (none) { frames := 1, cells := 0, slots := 0, locals := 20 } g z [.ref (g.2.2 2 m), .int x] I P O (dp (none) (rT I m x) (P)) := by
  refine RT.of (own := RX2) rfl (by decide +kernel) (Nat.le_of_ble_eq_true rfl) rfl (fun K C hl hg hR => ?_)
  subst hl
  subst hg
  refine g_aload_n (pc' := 1) C dX2_runTerm_0 rfl rfl ?_
  refine f_X2_9 (pc' := 4) C dX2_runTerm_1 (by first | assumption | exact rfl | exact al13 rfl | exact Nat.le_of_ble_eq_true rfl) rfl ?_
  refine g_iconst (v := 3) (pc' := 5) C dX2_runTerm_4 (by decide) rfl ?_
  refine g_icmp_ne (tgt := 21) (pc' := 8) C dX2_runTerm_5 (by decide) rfl (fun c1 => ?_) (fun c1 => ?_)
  ·
    refine g_aload_n (pc' := 22) C dX2_runTerm_21 rfl rfl ?_
    refine k_X2_36 (pc' := 25) C (m_X2_isOpen hm2) dX2_runTerm_22 (by first | assumption | exact rfl | exact al13 rfl | exact Nat.le_of_ble_eq_true rfl) ⟨⟨Nat.le_of_ble_eq_true rfl, Nat.le_of_ble_eq_true rfl⟩, rfl, rfl⟩ (Nat.le_of_ble_eq_true rfl) ⟨Nat.zero_le _, Nat.zero_le _⟩ rfl ?_
    refine g_if_eq (tgt := 41) (pc' := 28) C dX2_runTerm_25 (by decide) rfl (fun c2 => ?_) (fun c2 => ?_)
    ·
      have c2 := b2_0.mp c2
      exact g_vret C hR dX2_runTerm_41 ⟨rfl, by simp [rT, c1, c2], rfl⟩
    ·
      have c2 := b2_1.mp c2
      refine g_aload_n (pc' := 29) C dX2_runTerm_28 rfl rfl ?_
      refine f_X2_33 (pc' := 32) C dX2_runTerm_29 (by first | assumption | exact rfl | exact al13 rfl | exact Nat.le_of_ble_eq_true rfl) rfl ?_
      refine g_iload_n (pc' := 33) C dX2_runTerm_32 rfl rfl ?_
      refine g_icmp_gt (tgt := 41) (pc' := 36) C dX2_runTerm_33 (by decide) rfl (fun c3 => ?_) (fun c3 => ?_)
      ·
        exact g_vret C hR dX2_runTerm_41 ⟨rfl, by simp [rT, c1, c2, c3], rfl⟩
      ·
        refine g_aload_n (pc' := 37) C dX2_runTerm_36 rfl rfl ?_
        refine g_iconst (v := 5) (pc' := 38) C dX2_runTerm_37 (by decide) rfl ?_
        refine p_X2_9 (pc' := 41) C dX2_runTerm_38 (by first | assumption | exact rfl | exact al13 rfl | exact Nat.le_of_ble_eq_true rfl) rfl ?_
        exact g_vret C hR dX2_runTerm_41 ⟨rfl, by simp [rT, c1, c2, c3], rfl⟩
  ·
    refine g_aload_n (pc' := 9) C dX2_runTerm_8 rfl rfl ?_
    refine g_dup (pc' := 10) C dX2_runTerm_9 rfl rfl ?_
    refine f_X2_33 (pc' := 13) C dX2_runTerm_10 (by first | assumption | exact rfl | exact al13 rfl | exact Nat.le_of_ble_eq_true rfl) rfl ?_
    refine g_iconst (v := 1) (pc' := 14) C dX2_runTerm_13 (by decide) rfl ?_
    refine g_iadd (pc' := 15) C dX2_runTerm_14 rfl ?_
    refine p_X2_33 (pc' := 18) C dX2_runTerm_15 (by first | assumption | exact rfl | exact al13 rfl | exact Nat.le_of_ble_eq_true rfl) rfl ?_
    refine g_goto (tgt := 41) C dX2_runTerm_18 (by decide) ?_
    exact g_vret C hR dX2_runTerm_41 ⟨rfl, by simp [rT, c1], rfl⟩
set_option maxRecDepth 20000 in
theorem m_X0_settleAt {l : Launch} {g : wG} {z : wZ} {I : wI} {P : wP} {O : wO} {h : Nat} {x y w : Int32} (hh : wAl z 3 h) : RT l yX0_settleAt cX0_settleAt 4 (none) { frames := 0, cells := 0, slots := 0, locals := 0 } g z [.ref (g.2.2 3 h), .int x, .int y, .int w] I P O (dp (none) (sA I h x y w) (P)) := by
  refine RT.of (own := RX0) rfl (by decide +kernel) (Nat.le_of_ble_eq_true rfl) rfl (fun K C hl hg hR => ?_)
  subst hl
  subst hg
  refine g_aload_n (pc' := 1) C dX0_settleAt_0 rfl rfl ?_
  refine g_iload_n (pc' := 2) C dX0_settleAt_1 rfl rfl ?_
  refine p_X0_19 (pc' := 5) C dX0_settleAt_2 (by first | assumption | exact rfl | exact al13 rfl | exact Nat.le_of_ble_eq_true rfl) rfl ?_
  refine g_aload_n (pc' := 6) C dX0_settleAt_5 rfl rfl ?_
  refine g_iload_n (pc' := 7) C dX0_settleAt_6 rfl rfl ?_
  refine p_X0_22 (pc' := 10) C dX0_settleAt_7 (by first | assumption | exact rfl | exact al13 rfl | exact Nat.le_of_ble_eq_true rfl) rfl ?_
  refine g_aload_n (pc' := 11) C dX0_settleAt_10 rfl rfl ?_
  refine g_iload_n (pc' := 12) C dX0_settleAt_11 rfl rfl ?_
  refine p_X0_25 (pc' := 15) C dX0_settleAt_12 (by first | assumption | exact rfl | exact al13 rfl | exact Nat.le_of_ble_eq_true rfl) rfl ?_
  refine g_aload_n (pc' := 16) C dX0_settleAt_15 rfl rfl ?_
  refine g_iconst (v := 0) (pc' := 17) C dX0_settleAt_16 (by decide) rfl ?_
  refine p_X0_28 (pc' := 20) C dX0_settleAt_17 (by first | assumption | exact rfl | exact al13 rfl | exact Nat.le_of_ble_eq_true rfl) rfl rfl rfl ?_
  refine g_aload_n (pc' := 21) C dX0_settleAt_20 rfl rfl ?_
  refine g_iconst (v := 0) (pc' := 22) C dX0_settleAt_21 (by decide) rfl ?_
  refine p_X0_32 (pc' := 25) C dX0_settleAt_22 (by first | assumption | exact rfl | exact al13 rfl | exact Nat.le_of_ble_eq_true rfl) rfl rfl rfl ?_
  exact g_vret C hR dX0_settleAt_25 ⟨rfl, rfl, rfl⟩
set_option maxRecDepth 20000 in
theorem m_X0_takesPartOf {l : Launch} {g : wG} {z : wZ} {I : wI} {P : wP} {O : wO} {h : Nat} {x y : Int32} (hh : wAl z 3 h) : RT l yX0_takesPartOf cX0_takesPartOf 3 ((some .boolean)) { frames := 0, cells := 0, slots := 0, locals := 0 } g z [.ref (g.2.2 3 h), .int x, .int y] I P O (dp (some (.int (b2 (tp I h x y)))) (I) (P)) := by
  refine RT.of (own := RX0) rfl (by decide +kernel) (Nat.le_of_ble_eq_true rfl) rfl (fun K C hl hg hR => ?_)
  subst hl
  subst hg
  refine g_aload_n (pc' := 1) C dX0_takesPartOf_0 rfl rfl ?_
  refine f_X0_15 (pc' := 4) C dX0_takesPartOf_1 (by first | assumption | exact rfl | exact al13 rfl | exact Nat.le_of_ble_eq_true rfl) rfl ?_
  refine g_if_ne (tgt := 34) (pc' := 7) C dX0_takesPartOf_4 (by decide) rfl (fun c1 => ?_) (fun c1 => ?_)
  ·
    refine g_iconst (v := 0) (pc' := 35) C dX0_takesPartOf_34 (by decide) rfl ?_
    exact g_zret C hR dX0_takesPartOf_35 rfl ⟨by simp [b2, tp, c1], rfl, rfl⟩
  ·
    refine g_aload_n (pc' := 8) C dX0_takesPartOf_7 rfl rfl ?_
    refine f_X0_25 (pc' := 11) C dX0_takesPartOf_8 (by first | assumption | exact rfl | exact al13 rfl | exact Nat.le_of_ble_eq_true rfl) rfl ?_
    refine g_iload_n (pc' := 12) C dX0_takesPartOf_11 rfl rfl ?_
    refine g_iload_n (pc' := 13) C dX0_takesPartOf_12 rfl rfl ?_
    refine g_iadd (pc' := 14) C dX0_takesPartOf_13 rfl ?_
    refine g_icmp_ge (tgt := 34) (pc' := 17) C dX0_takesPartOf_14 (by decide) rfl (fun c2 => ?_) (fun c2 => ?_)
    ·
      refine g_iconst (v := 0) (pc' := 35) C dX0_takesPartOf_34 (by decide) rfl ?_
      exact g_zret C hR dX0_takesPartOf_35 rfl ⟨by simp [b2, tp, c1, c2], rfl, rfl⟩
    ·
      refine g_iload_n (pc' := 18) C dX0_takesPartOf_17 rfl rfl ?_
      refine g_aload_n (pc' := 19) C dX0_takesPartOf_18 rfl rfl ?_
      refine f_X0_25 (pc' := 22) C dX0_takesPartOf_19 (by first | assumption | exact rfl | exact al13 rfl | exact Nat.le_of_ble_eq_true rfl) rfl ?_
      refine g_aload_n (pc' := 23) C dX0_takesPartOf_22 rfl rfl ?_
      refine f_X0_42 (pc' := 26) C dX0_takesPartOf_23 (by first | assumption | exact rfl | exact al13 rfl | exact Nat.le_of_ble_eq_true rfl) rfl ?_
      refine g_iadd (pc' := 27) C dX0_takesPartOf_26 rfl ?_
      refine g_icmp_ge (tgt := 34) (pc' := 30) C dX0_takesPartOf_27 (by decide) rfl (fun c3 => ?_) (fun c3 => ?_)
      ·
        refine g_iconst (v := 0) (pc' := 35) C dX0_takesPartOf_34 (by decide) rfl ?_
        exact g_zret C hR dX0_takesPartOf_35 rfl ⟨by simp [b2, tp, c1, c2, c3], rfl, rfl⟩
      ·
        refine g_iconst (v := 1) (pc' := 31) C dX0_takesPartOf_30 (by decide) rfl ?_
        refine g_goto (tgt := 35) C dX0_takesPartOf_31 (by decide) ?_
        exact g_zret C hR dX0_takesPartOf_35 rfl ⟨by simp [b2, tp, c1, c2, c3], rfl, rfl⟩
set_option maxRecDepth 20000 in
theorem m_X0_needs {l : Launch} {g : wG} {z : wZ} {I : wI} {P : wP} {O : wO} {m h : Nat} {x y : Int32} (hh : wAl z 3 h) (hm : P 3 h 1 = some m) (hm2 : wAl z 2 m) : RT l yX0_needs cX0_needs 3 ((some .boolean)) { frames := 1, cells := 0, slots := 0, locals := 21 } g z [.ref (g.2.2 3 h), .int x, .int y] I P O (dp (some (.int (b2 (nd I m h x y)))) (I) (P)) := by
  refine RT.of (own := RX0) rfl (by decide +kernel) (Nat.le_of_ble_eq_true rfl) rfl (fun K C hl hg hR => ?_)
  subst hl
  subst hg
  refine g_iload_n (pc' := 1) C dX0_needs_0 rfl rfl ?_
  rcases tsw2 x with hw | hw | hw | hw
  · refine g_tabIn (tgt := 28) C 0 (by rw [hw]; rfl) dX0_needs_1 (by decide) (by decide) rfl (by decide) ?_
    refine g_aload_n (pc' := 29) C dX0_needs_28 rfl rfl ?_
    refine f_X0_19 (pc' := 32) C dX0_needs_29 (by first | assumption | exact rfl | exact al13 rfl | exact Nat.le_of_ble_eq_true rfl) rfl ?_
    refine g_iload_n (pc' := 33) C dX0_needs_32 rfl rfl ?_
    refine g_icmp_ne (tgt := 40) (pc' := 36) C dX0_needs_33 (by decide) rfl (fun c1 => ?_) (fun c1 => ?_)
    ·
      refine g_iconst (v := 0) (pc' := 41) C dX0_needs_40 (by decide) rfl ?_
      exact g_zret C hR dX0_needs_41 rfl ⟨by simp [b2, nd, hw, c1], rfl, rfl⟩
    ·
      refine g_iconst (v := 1) (pc' := 37) C dX0_needs_36 (by decide) rfl ?_
      refine g_goto (tgt := 41) C dX0_needs_37 (by decide) ?_
      exact g_zret C hR dX0_needs_41 rfl ⟨by simp [b2, nd, hw, c1], rfl, rfl⟩
  · refine g_tabIn (tgt := 42) C 1 (by rw [hw]; rfl) dX0_needs_1 (by decide) (by decide) rfl (by decide) ?_
    refine g_aload_n (pc' := 43) C dX0_needs_42 rfl rfl ?_
    refine f_X0_38 (pc' := 46) C hm dX0_needs_43 (by first | assumption | exact rfl | exact al13 rfl | exact Nat.le_of_ble_eq_true rfl) rfl ?_
    refine f_X0_45 (pc' := 49) C dX0_needs_46 (by first | assumption | exact rfl | exact al13 rfl | exact Nat.le_of_ble_eq_true rfl) rfl ?_
    refine g_iload_n (pc' := 50) C dX0_needs_49 rfl rfl ?_
    refine g_icmp_ne (tgt := 57) (pc' := 53) C dX0_needs_50 (by decide) rfl (fun c2 => ?_) (fun c2 => ?_)
    ·
      refine g_iconst (v := 0) (pc' := 58) C dX0_needs_57 (by decide) rfl ?_
      exact g_zret C hR dX0_needs_58 rfl ⟨by simp [b2, nd, hw, c2], rfl, rfl⟩
    ·
      refine g_iconst (v := 1) (pc' := 54) C dX0_needs_53 (by decide) rfl ?_
      refine g_goto (tgt := 58) C dX0_needs_54 (by decide) ?_
      exact g_zret C hR dX0_needs_58 rfl ⟨by simp [b2, nd, hw, c2], rfl, rfl⟩
  · refine g_tabIn (tgt := 59) C 2 (by rw [hw]; rfl) dX0_needs_1 (by decide) (by decide) rfl (by decide) ?_
    refine g_aload_n (pc' := 60) C dX0_needs_59 rfl rfl ?_
    refine f_X0_38 (pc' := 63) C hm dX0_needs_60 (by first | assumption | exact rfl | exact al13 rfl | exact Nat.le_of_ble_eq_true rfl) rfl ?_
    refine g_iload_n (pc' := 64) C dX0_needs_63 rfl rfl ?_
    refine k_X0_50 (pc' := 67) C (m_X2_isOf hm2) dX0_needs_64 (by first | assumption | exact rfl | exact al13 rfl | exact Nat.le_of_ble_eq_true rfl) ⟨⟨Nat.le_of_ble_eq_true rfl, Nat.le_of_ble_eq_true rfl⟩, rfl, rfl⟩ (Nat.le_of_ble_eq_true rfl) ⟨Nat.zero_le _, Nat.zero_le _⟩ rfl ?_
    exact g_zret C hR dX0_needs_67 (b2_n _) ⟨by simp [nd, hw], rfl, rfl⟩
  · have h0 : ¬ x = 0 := fun e => by rw [e] at hw; exact absurd hw (by decide)
    have h1 : ¬ x = 1 := fun e => by rw [e] at hw; exact absurd hw (by decide)
    have h2 : ¬ x = 2 := fun e => by rw [e] at hw; exact absurd hw (by decide)
    refine g_tabOut (tgt := 68) C dX0_needs_1 hw (by decide) ?_
    refine g_aload_n (pc' := 69) C dX0_needs_68 rfl rfl ?_
    refine f_X0_22 (pc' := 72) C dX0_needs_69 (by first | assumption | exact rfl | exact al13 rfl | exact Nat.le_of_ble_eq_true rfl) rfl ?_
    refine g_iload_n (pc' := 73) C dX0_needs_72 rfl rfl ?_
    refine g_icmp_ne (tgt := 80) (pc' := 76) C dX0_needs_73 (by decide) rfl (fun c3 => ?_) (fun c3 => ?_)
    ·
      refine g_iconst (v := 0) (pc' := 81) C dX0_needs_80 (by decide) rfl ?_
      exact g_zret C hR dX0_needs_81 rfl ⟨by simp [b2, nd, h0, h1, h2, c3], rfl, rfl⟩
    ·
      refine g_iconst (v := 1) (pc' := 77) C dX0_needs_76 (by decide) rfl ?_
      refine g_goto (tgt := 81) C dX0_needs_77 (by decide) ?_
      exact g_zret C hR dX0_needs_81 rfl ⟨by simp [b2, nd, h0, h1, h2, c3], rfl, rfl⟩
set_option maxRecDepth 20000 in
theorem m_X0_reasonAgainst {l : Launch} {g : wG} {z : wZ} {I : wI} {P : wP} {O : wO} {m h m2 : Nat} {x y : Int32} (hh : wAl z 3 h) (hm : P 3 h 1 = some m) (hm2 : wAl z 2 m) (hm3 : wAl z 2 m2) : RT l yX0_reasonAgainst cX0_reasonAgainst 4 ((some .int)) { frames := 2, cells := 0, slots := 0, locals := 43 } g z [.ref (g.2.2 3 h), .ref (g.2.2 2 m2), .int x, .int y] I P O (dp (some (.int (ra I m h m2 x y))) (I) (P)) := by
  refine RT.of (own := RX0) rfl (by decide +kernel) (Nat.le_of_ble_eq_true rfl) rfl (fun K C hl hg hR => ?_)
  subst hl
  subst hg
  refine g_aload_n (pc' := 1) C dX0_reasonAgainst_0 rfl rfl ?_
  refine g_iconst (v := 0) (pc' := 2) C dX0_reasonAgainst_1 (by decide) rfl ?_
  refine g_iload_n (pc' := 3) C dX0_reasonAgainst_2 rfl rfl ?_
  refine k_X0_54 (pc' := 6) C (m_X0_needs hh hm hm2) dX0_reasonAgainst_3 (by first | assumption | exact rfl | exact al13 rfl | exact Nat.le_of_ble_eq_true rfl) ⟨⟨Nat.le_of_ble_eq_true rfl, Nat.le_of_ble_eq_true rfl⟩, rfl, rfl⟩ (Nat.le_of_ble_eq_true rfl) ⟨Nat.zero_le _, Nat.zero_le _⟩ rfl ?_
  refine g_if_eq (tgt := 11) (pc' := 9) C dX0_reasonAgainst_6 (by decide) rfl (fun c1 => ?_) (fun c1 => ?_)
  ·
    have c1 := b2_0.mp c1
    refine g_aload_n (pc' := 12) C dX0_reasonAgainst_11 rfl rfl ?_
    refine g_iconst (v := 1) (pc' := 13) C dX0_reasonAgainst_12 (by decide) rfl ?_
    refine g_aload_n (pc' := 14) C dX0_reasonAgainst_13 rfl rfl ?_
    refine f_X0_45 (pc' := 17) C dX0_reasonAgainst_14 (by first | assumption | exact rfl | exact al13 rfl | exact Nat.le_of_ble_eq_true rfl) rfl ?_
    refine k_X0_54 (pc' := 20) C (m_X0_needs hh hm hm2) dX0_reasonAgainst_17 (by first | assumption | exact rfl | exact al13 rfl | exact Nat.le_of_ble_eq_true rfl) ⟨⟨Nat.le_of_ble_eq_true rfl, Nat.le_of_ble_eq_true rfl⟩, rfl, rfl⟩ (Nat.le_of_ble_eq_true rfl) ⟨Nat.zero_le _, Nat.zero_le _⟩ rfl ?_
    refine g_if_eq (tgt := 25) (pc' := 23) C dX0_reasonAgainst_20 (by decide) rfl (fun c2 => ?_) (fun c2 => ?_)
    ·
      have c2 := b2_0.mp c2
      refine g_aload_n (pc' := 26) C dX0_reasonAgainst_25 rfl rfl ?_
      refine g_iconst (v := 2) (pc' := 27) C dX0_reasonAgainst_26 (by decide) rfl ?_
      refine g_aload_n (pc' := 28) C dX0_reasonAgainst_27 rfl rfl ?_
      refine f_X0_58 (pc' := 31) C dX0_reasonAgainst_28 (by first | assumption | exact rfl | exact al13 rfl | exact Nat.le_of_ble_eq_true rfl) rfl ?_
      refine k_X0_54 (pc' := 34) C (m_X0_needs hh hm hm2) dX0_reasonAgainst_31 (by first | assumption | exact rfl | exact al13 rfl | exact Nat.le_of_ble_eq_true rfl) ⟨⟨Nat.le_of_ble_eq_true rfl, Nat.le_of_ble_eq_true rfl⟩, rfl, rfl⟩ (Nat.le_of_ble_eq_true rfl) ⟨Nat.zero_le _, Nat.zero_le _⟩ rfl ?_
      refine g_if_ne (tgt := 49) (pc' := 37) C dX0_reasonAgainst_34 (by decide) rfl (fun c3 => ?_) (fun c3 => ?_)
      ·
        have c3 := b2_1.mp c3
        refine g_iconst (v := 3) (pc' := 50) C dX0_reasonAgainst_49 (by decide) rfl ?_
        exact g_iret C hR dX0_reasonAgainst_50 ⟨by simp [ra, c1, c2, c3], rfl, rfl⟩
      ·
        have c3 := b2_0.mp c3
        refine g_aload_n (pc' := 38) C dX0_reasonAgainst_37 rfl rfl ?_
        refine g_iconst (v := 2) (pc' := 39) C dX0_reasonAgainst_38 (by decide) rfl ?_
        refine g_aload_n (pc' := 40) C dX0_reasonAgainst_39 rfl rfl ?_
        refine f_X0_61 (pc' := 43) C dX0_reasonAgainst_40 (by first | assumption | exact rfl | exact al13 rfl | exact Nat.le_of_ble_eq_true rfl) rfl ?_
        refine k_X0_54 (pc' := 46) C (m_X0_needs hh hm hm2) dX0_reasonAgainst_43 (by first | assumption | exact rfl | exact al13 rfl | exact Nat.le_of_ble_eq_true rfl) ⟨⟨Nat.le_of_ble_eq_true rfl, Nat.le_of_ble_eq_true rfl⟩, rfl, rfl⟩ (Nat.le_of_ble_eq_true rfl) ⟨Nat.zero_le _, Nat.zero_le _⟩ rfl ?_
        refine g_if_eq (tgt := 51) (pc' := 49) C dX0_reasonAgainst_46 (by decide) rfl (fun c4 => ?_) (fun c4 => ?_)
        ·
          have c4 := b2_0.mp c4
          refine g_iload_n (pc' := 52) C dX0_reasonAgainst_51 rfl rfl ?_
          refine g_iconst (v := (-1)) (pc' := 53) C dX0_reasonAgainst_52 (by decide) rfl ?_
          refine g_icmp_eq (tgt := 69) (pc' := 56) C dX0_reasonAgainst_53 (by decide) rfl (fun c5 => ?_) (fun c5 => ?_)
          ·
            refine g_iconst (v := 0) (pc' := 70) C dX0_reasonAgainst_69 (by decide) rfl ?_
            exact g_iret C hR dX0_reasonAgainst_70 ⟨by simp [ra, c1, c2, c3, c4, c5], rfl, rfl⟩
          ·
            refine g_aload_n (pc' := 57) C dX0_reasonAgainst_56 rfl rfl ?_
            refine g_iconst (v := 3) (pc' := 58) C dX0_reasonAgainst_57 (by decide) rfl ?_
            refine g_iload_n (pc' := 59) C dX0_reasonAgainst_58 rfl rfl ?_
            refine k_X0_54 (pc' := 62) C (m_X0_needs hh hm hm2) dX0_reasonAgainst_59 (by first | assumption | exact rfl | exact al13 rfl | exact Nat.le_of_ble_eq_true rfl) ⟨⟨Nat.le_of_ble_eq_true rfl, Nat.le_of_ble_eq_true rfl⟩, rfl, rfl⟩ (Nat.le_of_ble_eq_true rfl) ⟨Nat.zero_le _, Nat.zero_le _⟩ rfl ?_
            refine g_if_eq (tgt := 69) (pc' := 65) C dX0_reasonAgainst_62 (by decide) rfl (fun c6 => ?_) (fun c6 => ?_)
            ·
              have c6 := b2_0.mp c6
              refine g_iconst (v := 0) (pc' := 70) C dX0_reasonAgainst_69 (by decide) rfl ?_
              exact g_iret C hR dX0_reasonAgainst_70 ⟨by simp [ra, c1, c2, c3, c4, c5, c6], rfl, rfl⟩
            ·
              have c6 := b2_1.mp c6
              refine g_iconst (v := 4) (pc' := 66) C dX0_reasonAgainst_65 (by decide) rfl ?_
              refine g_goto (tgt := 70) C dX0_reasonAgainst_66 (by decide) ?_
              exact g_iret C hR dX0_reasonAgainst_70 ⟨by simp [ra, c1, c2, c3, c4, c5, c6], rfl, rfl⟩
        ·
          have c4 := b2_1.mp c4
          refine g_iconst (v := 3) (pc' := 50) C dX0_reasonAgainst_49 (by decide) rfl ?_
          exact g_iret C hR dX0_reasonAgainst_50 ⟨by simp [ra, c1, c2, c3, c4], rfl, rfl⟩
    ·
      have c2 := b2_1.mp c2
      refine g_iconst (v := 2) (pc' := 24) C dX0_reasonAgainst_23 (by decide) rfl ?_
      exact g_iret C hR dX0_reasonAgainst_24 ⟨by simp [ra, c1, c2], rfl, rfl⟩
  ·
    have c1 := b2_1.mp c1
    refine g_iconst (v := 1) (pc' := 10) C dX0_reasonAgainst_9 (by decide) rfl ?_
    exact g_iret C hR dX0_reasonAgainst_10 ⟨by simp [ra, c1], rfl, rfl⟩
set_option maxRecDepth 20000 in
theorem m_X0_tell {l : Launch} {g : wG} {z : wZ} {I : wI} {P : wP} {O : wO} {m h : Nat} {x : Int32} (hh : wAl z 3 h) (hm : P 3 h 1 = some m) (hm2 : wAl z 2 m) : RT l yX0_tell cX0_tell 2 (none) { frames := 0, cells := 0, slots := 0, locals := 0 } g z [.ref (g.2.2 3 h), .int x] I P O (dp (none) (tl I m h x) (P)) := by
  refine RT.of (own := RX0) rfl (by decide +kernel) (Nat.le_of_ble_eq_true rfl) rfl (fun K C hl hg hR => ?_)
  subst hl
  subst hg
  refine g_iload_n (pc' := 1) C dX0_tell_0 rfl rfl ?_
  refine g_aload_n (pc' := 2) C dX0_tell_1 rfl rfl ?_
  refine f_X0_38 (pc' := 5) C hm dX0_tell_2 (by first | assumption | exact rfl | exact al13 rfl | exact Nat.le_of_ble_eq_true rfl) rfl ?_
  refine f_X0_58 (pc' := 8) C dX0_tell_5 (by first | assumption | exact rfl | exact al13 rfl | exact Nat.le_of_ble_eq_true rfl) rfl ?_
  refine g_icmp_ne (tgt := 16) (pc' := 11) C dX0_tell_8 (by decide) rfl (fun c1 => ?_) (fun c1 => ?_)
  ·
    refine g_iload_n (pc' := 17) C dX0_tell_16 rfl rfl ?_
    refine g_aload_n (pc' := 18) C dX0_tell_17 rfl rfl ?_
    refine f_X0_38 (pc' := 21) C hm dX0_tell_18 (by first | assumption | exact rfl | exact al13 rfl | exact Nat.le_of_ble_eq_true rfl) rfl ?_
    refine f_X0_61 (pc' := 24) C dX0_tell_21 (by first | assumption | exact rfl | exact al13 rfl | exact Nat.le_of_ble_eq_true rfl) rfl ?_
    refine g_icmp_ne (tgt := 32) (pc' := 27) C dX0_tell_24 (by decide) rfl (fun c2 => ?_) (fun c2 => ?_)
    ·
      exact g_vret C hR dX0_tell_32 ⟨rfl, by (try simp [upI_at] at c2); unfold tl tl1; (repeat' split) <;> first | rfl | contradiction | (exfalso; simp_all), rfl⟩
    ·
      refine g_aload_n (pc' := 28) C dX0_tell_27 rfl rfl ?_
      refine g_iconst (v := 1) (pc' := 29) C dX0_tell_28 (by decide) rfl ?_
      refine p_X0_32 (pc' := 32) C dX0_tell_29 (by first | assumption | exact rfl | exact al13 rfl | exact Nat.le_of_ble_eq_true rfl) rfl rfl rfl ?_
      exact g_vret C hR dX0_tell_32 ⟨rfl, by (try simp [upI_at] at c2); unfold tl tl1; (repeat' split) <;> first | rfl | contradiction | (exfalso; simp_all), rfl⟩
  ·
    refine g_aload_n (pc' := 12) C dX0_tell_11 rfl rfl ?_
    refine g_iconst (v := 1) (pc' := 13) C dX0_tell_12 (by decide) rfl ?_
    refine p_X0_28 (pc' := 16) C dX0_tell_13 (by first | assumption | exact rfl | exact al13 rfl | exact Nat.le_of_ble_eq_true rfl) rfl rfl rfl ?_
    refine g_iload_n (pc' := 17) C dX0_tell_16 rfl rfl ?_
    refine g_aload_n (pc' := 18) C dX0_tell_17 rfl rfl ?_
    refine f_X0_38 (pc' := 21) C hm dX0_tell_18 (by first | assumption | exact rfl | exact al13 rfl | exact Nat.le_of_ble_eq_true rfl) rfl ?_
    refine f_X0_61 (pc' := 24) C dX0_tell_21 (by first | assumption | exact rfl | exact al13 rfl | exact Nat.le_of_ble_eq_true rfl) rfl ?_
    refine g_icmp_ne (tgt := 32) (pc' := 27) C dX0_tell_24 (by decide) rfl (fun c3 => ?_) (fun c3 => ?_)
    ·
      exact g_vret C hR dX0_tell_32 ⟨rfl, by (try simp [upI_at] at c3); unfold tl tl1; (repeat' split) <;> first | rfl | contradiction | (exfalso; simp_all), rfl⟩
    ·
      refine g_aload_n (pc' := 28) C dX0_tell_27 rfl rfl ?_
      refine g_iconst (v := 1) (pc' := 29) C dX0_tell_28 (by decide) rfl ?_
      refine p_X0_32 (pc' := 32) C dX0_tell_29 (by first | assumption | exact rfl | exact al13 rfl | exact Nat.le_of_ble_eq_true rfl) rfl rfl rfl ?_
      exact g_vret C hR dX0_tell_32 ⟨rfl, by (try simp [upI_at] at c3); unfold tl tl1; (repeat' split) <;> first | rfl | contradiction | (exfalso; simp_all), rfl⟩
set_option maxRecDepth 20000 in
theorem m_X0_notices {l : Launch} {g : wG} {z : wZ} {I : wI} {P : wP} {O : wO} {h : Nat} (hh : wAl z 3 h) : RT l yX0_notices cX0_notices 1 ((some .int)) { frames := 0, cells := 0, slots := 0, locals := 0 } g z [.ref (g.2.2 3 h)] I P O (dp (some (.int (ntc I h))) (I) (P)) := by
  refine RT.of (own := RX0) rfl (by decide +kernel) (Nat.le_of_ble_eq_true rfl) rfl (fun K C hl hg hR => ?_)
  subst hl
  subst hg
  refine g_aload_n (pc' := 1) C dX0_notices_0 rfl rfl ?_
  refine f_X0_28 (pc' := 4) C dX0_notices_1 (by first | assumption | exact rfl | exact al13 rfl | exact Nat.le_of_ble_eq_true rfl) rfl ?_
  refine g_if_eq (tgt := 11) (pc' := 7) C dX0_notices_4 (by decide) rfl (fun c1 => ?_) (fun c1 => ?_)
  ·
    refine g_iconst (v := 0) (pc' := 12) C dX0_notices_11 (by decide) rfl ?_
    refine g_aload_n (pc' := 13) C dX0_notices_12 rfl rfl ?_
    refine f_X0_32 (pc' := 16) C dX0_notices_13 (by first | assumption | exact rfl | exact al13 rfl | exact Nat.le_of_ble_eq_true rfl) rfl ?_
    refine g_if_eq (tgt := 23) (pc' := 19) C dX0_notices_16 (by decide) rfl (fun c2 => ?_) (fun c2 => ?_)
    ·
      refine g_iconst (v := 0) (pc' := 24) C dX0_notices_23 (by decide) rfl ?_
      refine g_iadd (pc' := 25) C dX0_notices_24 rfl ?_
      exact g_iret C hR dX0_notices_25 ⟨by simp [ntc, c1, c2], rfl, rfl⟩
    ·
      refine g_iconst (v := 1) (pc' := 20) C dX0_notices_19 (by decide) rfl ?_
      refine g_goto (tgt := 24) C dX0_notices_20 (by decide) ?_
      refine g_iadd (pc' := 25) C dX0_notices_24 rfl ?_
      exact g_iret C hR dX0_notices_25 ⟨by simp [ntc, c1, c2], rfl, rfl⟩
  ·
    refine g_iconst (v := 1) (pc' := 8) C dX0_notices_7 (by decide) rfl ?_
    refine g_goto (tgt := 12) C dX0_notices_8 (by decide) ?_
    refine g_aload_n (pc' := 13) C dX0_notices_12 rfl rfl ?_
    refine f_X0_32 (pc' := 16) C dX0_notices_13 (by first | assumption | exact rfl | exact al13 rfl | exact Nat.le_of_ble_eq_true rfl) rfl ?_
    refine g_if_eq (tgt := 23) (pc' := 19) C dX0_notices_16 (by decide) rfl (fun c3 => ?_) (fun c3 => ?_)
    ·
      refine g_iconst (v := 0) (pc' := 24) C dX0_notices_23 (by decide) rfl ?_
      refine g_iadd (pc' := 25) C dX0_notices_24 rfl ?_
      exact g_iret C hR dX0_notices_25 ⟨by simp [ntc, c1, c3], rfl, rfl⟩
    ·
      refine g_iconst (v := 1) (pc' := 20) C dX0_notices_19 (by decide) rfl ?_
      refine g_goto (tgt := 24) C dX0_notices_20 (by decide) ?_
      refine g_iadd (pc' := 25) C dX0_notices_24 rfl ?_
      exact g_iret C hR dX0_notices_25 ⟨by simp [ntc, c1, c3], rfl, rfl⟩
set_option maxRecDepth 20000 in
theorem m_X0_charged {l : Launch} {g : wG} {z : wZ} {I : wI} {P : wP} {O : wO} {h : Nat} (hh : wAl z 3 h) : RT l yX0_charged cX0_charged 3 ((some .int)) { frames := 0, cells := 0, slots := 0, locals := 0 } g z [.ref (g.2.2 3 h)] I P O (dp (some (.int (chg I h))) (I) (P)) := by
  refine RT.of (own := RX0) rfl (by decide +kernel) (Nat.le_of_ble_eq_true rfl) rfl (fun K C hl hg hR => ?_)
  subst hl
  subst hg
  refine g_iconst (v := 0) (pc' := 1) C dX0_charged_0 (by decide) rfl ?_
  refine g_istore_n (pc' := 2) C dX0_charged_1 rfl rfl ?_
  refine g_iconst (v := 0) (pc' := 3) C dX0_charged_2 (by decide) rfl ?_
  refine g_istore_n (pc' := 4) C dX0_charged_3 rfl rfl ?_
  refine g_iload_n (pc' := 5) C dX0_charged_4 rfl rfl ?_
  refine g_aload_n (pc' := 6) C dX0_charged_5 rfl rfl ?_
  refine f_X0_9 (pc' := 9) C dX0_charged_6 (by first | assumption | exact rfl | exact al13 rfl | exact Nat.le_of_ble_eq_true rfl) rfl ?_
  refine g_alen (pc' := 10) (v := 4) (t0 := 0) C dX0_charged_9 (by first | assumption | exact rfl | exact al13 rfl | exact Nat.le_of_ble_eq_true rfl) rfl rfl rfl rfl ?_
  refine g_icmp_ge (tgt := 28) (pc' := 13) C dX0_charged_10 (by decide) rfl (fun c1 => absurd c1 (by decide)) (fun c1 => ?_)
  refine g_iload_n (pc' := 14) C dX0_charged_13 rfl rfl ?_
  refine g_aload_n (pc' := 15) C dX0_charged_14 rfl rfl ?_
  refine f_X0_9 (pc' := 18) C dX0_charged_15 (by first | assumption | exact rfl | exact al13 rfl | exact Nat.le_of_ble_eq_true rfl) rfl ?_
  refine g_iload_n (pc' := 19) C dX0_charged_18 rfl rfl ?_
  refine g_iald (pc' := 20) C (0) (by decide) (by decide) dX0_charged_19 (by first | assumption | exact rfl | exact al13 rfl | exact Nat.le_of_ble_eq_true rfl) rfl rfl rfl ?_
  refine g_iadd (pc' := 21) C dX0_charged_20 rfl ?_
  refine g_istore_n (pc' := 22) C dX0_charged_21 rfl rfl ?_
  refine g_iinc (v := 1) (pc' := 25) C dX0_charged_22 rfl (by decide) rfl rfl ?_
  refine g_goto (tgt := 4) C dX0_charged_25 (by decide) ?_
  refine g_iload_n (pc' := 5) C dX0_charged_4 rfl rfl ?_
  refine g_aload_n (pc' := 6) C dX0_charged_5 rfl rfl ?_
  refine f_X0_9 (pc' := 9) C dX0_charged_6 (by first | assumption | exact rfl | exact al13 rfl | exact Nat.le_of_ble_eq_true rfl) rfl ?_
  refine g_alen (pc' := 10) (v := 4) (t0 := 0) C dX0_charged_9 (by first | assumption | exact rfl | exact al13 rfl | exact Nat.le_of_ble_eq_true rfl) rfl rfl rfl rfl ?_
  refine g_icmp_ge (tgt := 28) (pc' := 13) C dX0_charged_10 (by decide) rfl (fun c2 => absurd c2 (by decide)) (fun c2 => ?_)
  refine g_iload_n (pc' := 14) C dX0_charged_13 rfl rfl ?_
  refine g_aload_n (pc' := 15) C dX0_charged_14 rfl rfl ?_
  refine f_X0_9 (pc' := 18) C dX0_charged_15 (by first | assumption | exact rfl | exact al13 rfl | exact Nat.le_of_ble_eq_true rfl) rfl ?_
  refine g_iload_n (pc' := 19) C dX0_charged_18 rfl rfl ?_
  refine g_iald (pc' := 20) C (1) (by decide) (by decide) dX0_charged_19 (by first | assumption | exact rfl | exact al13 rfl | exact Nat.le_of_ble_eq_true rfl) rfl rfl rfl ?_
  refine g_iadd (pc' := 21) C dX0_charged_20 rfl ?_
  refine g_istore_n (pc' := 22) C dX0_charged_21 rfl rfl ?_
  refine g_iinc (v := 2) (pc' := 25) C dX0_charged_22 rfl (by decide) rfl rfl ?_
  refine g_goto (tgt := 4) C dX0_charged_25 (by decide) ?_
  refine g_iload_n (pc' := 5) C dX0_charged_4 rfl rfl ?_
  refine g_aload_n (pc' := 6) C dX0_charged_5 rfl rfl ?_
  refine f_X0_9 (pc' := 9) C dX0_charged_6 (by first | assumption | exact rfl | exact al13 rfl | exact Nat.le_of_ble_eq_true rfl) rfl ?_
  refine g_alen (pc' := 10) (v := 4) (t0 := 0) C dX0_charged_9 (by first | assumption | exact rfl | exact al13 rfl | exact Nat.le_of_ble_eq_true rfl) rfl rfl rfl rfl ?_
  refine g_icmp_ge (tgt := 28) (pc' := 13) C dX0_charged_10 (by decide) rfl (fun c3 => absurd c3 (by decide)) (fun c3 => ?_)
  refine g_iload_n (pc' := 14) C dX0_charged_13 rfl rfl ?_
  refine g_aload_n (pc' := 15) C dX0_charged_14 rfl rfl ?_
  refine f_X0_9 (pc' := 18) C dX0_charged_15 (by first | assumption | exact rfl | exact al13 rfl | exact Nat.le_of_ble_eq_true rfl) rfl ?_
  refine g_iload_n (pc' := 19) C dX0_charged_18 rfl rfl ?_
  refine g_iald (pc' := 20) C (2) (by decide) (by decide) dX0_charged_19 (by first | assumption | exact rfl | exact al13 rfl | exact Nat.le_of_ble_eq_true rfl) rfl rfl rfl ?_
  refine g_iadd (pc' := 21) C dX0_charged_20 rfl ?_
  refine g_istore_n (pc' := 22) C dX0_charged_21 rfl rfl ?_
  refine g_iinc (v := 3) (pc' := 25) C dX0_charged_22 rfl (by decide) rfl rfl ?_
  refine g_goto (tgt := 4) C dX0_charged_25 (by decide) ?_
  refine g_iload_n (pc' := 5) C dX0_charged_4 rfl rfl ?_
  refine g_aload_n (pc' := 6) C dX0_charged_5 rfl rfl ?_
  refine f_X0_9 (pc' := 9) C dX0_charged_6 (by first | assumption | exact rfl | exact al13 rfl | exact Nat.le_of_ble_eq_true rfl) rfl ?_
  refine g_alen (pc' := 10) (v := 4) (t0 := 0) C dX0_charged_9 (by first | assumption | exact rfl | exact al13 rfl | exact Nat.le_of_ble_eq_true rfl) rfl rfl rfl rfl ?_
  refine g_icmp_ge (tgt := 28) (pc' := 13) C dX0_charged_10 (by decide) rfl (fun c4 => absurd c4 (by decide)) (fun c4 => ?_)
  refine g_iload_n (pc' := 14) C dX0_charged_13 rfl rfl ?_
  refine g_aload_n (pc' := 15) C dX0_charged_14 rfl rfl ?_
  refine f_X0_9 (pc' := 18) C dX0_charged_15 (by first | assumption | exact rfl | exact al13 rfl | exact Nat.le_of_ble_eq_true rfl) rfl ?_
  refine g_iload_n (pc' := 19) C dX0_charged_18 rfl rfl ?_
  refine g_iald (pc' := 20) C (3) (by decide) (by decide) dX0_charged_19 (by first | assumption | exact rfl | exact al13 rfl | exact Nat.le_of_ble_eq_true rfl) rfl rfl rfl ?_
  refine g_iadd (pc' := 21) C dX0_charged_20 rfl ?_
  refine g_istore_n (pc' := 22) C dX0_charged_21 rfl rfl ?_
  refine g_iinc (v := 4) (pc' := 25) C dX0_charged_22 rfl (by decide) rfl rfl ?_
  refine g_goto (tgt := 4) C dX0_charged_25 (by decide) ?_
  refine g_iload_n (pc' := 5) C dX0_charged_4 rfl rfl ?_
  refine g_aload_n (pc' := 6) C dX0_charged_5 rfl rfl ?_
  refine f_X0_9 (pc' := 9) C dX0_charged_6 (by first | assumption | exact rfl | exact al13 rfl | exact Nat.le_of_ble_eq_true rfl) rfl ?_
  refine g_alen (pc' := 10) (v := 4) (t0 := 0) C dX0_charged_9 (by first | assumption | exact rfl | exact al13 rfl | exact Nat.le_of_ble_eq_true rfl) rfl rfl rfl rfl ?_
  refine g_icmp_ge (tgt := 28) (pc' := 13) C dX0_charged_10 (by decide) rfl (fun c5 => ?_) (fun c5 => absurd (by decide) c5)
  refine g_iload_n (pc' := 29) C dX0_charged_28 rfl rfl ?_
  exact g_iret C hR dX0_charged_29 ⟨rfl, rfl, rfl⟩
set_option maxRecDepth 20000 in
theorem m_X0_end {l : Launch} {g : wG} {z : wZ} {I : wI} {P : wP} {O : wO} {m h : Nat} (hh : wAl z 3 h) (hm : P 3 h 1 = some m) (hm2 : wAl z 2 m) : RT l yX0_end cX0_end 1 (none) { frames := 1, cells := 0, slots := 0, locals := 20 } g z [.ref (g.2.2 3 h)] I P O (dp (none) (hE I m h) (P)) := by
  refine RT.of (own := RX0) rfl (by decide +kernel) (Nat.le_of_ble_eq_true rfl) rfl (fun K C hl hg hR => ?_)
  subst hl
  subst hg
  refine g_aload_n (pc' := 1) C dX0_end_0 rfl rfl ?_
  refine f_X0_38 (pc' := 4) C hm dX0_end_1 (by first | assumption | exact rfl | exact al13 rfl | exact Nat.le_of_ble_eq_true rfl) rfl ?_
  refine k_X0_64 (pc' := 7) C (m_X2_isOpen hm2) dX0_end_4 (by first | assumption | exact rfl | exact al13 rfl | exact Nat.le_of_ble_eq_true rfl) ⟨⟨Nat.le_of_ble_eq_true rfl, Nat.le_of_ble_eq_true rfl⟩, rfl, rfl⟩ (Nat.le_of_ble_eq_true rfl) ⟨Nat.zero_le _, Nat.zero_le _⟩ rfl ?_
  refine g_if_eq (tgt := 40) (pc' := 10) C dX0_end_7 (by decide) rfl (fun c1 => ?_) (fun c1 => ?_)
  ·
    have c1 := b2_0.mp c1
    refine g_aload_n (pc' := 41) C dX0_end_40 rfl rfl ?_
    refine g_iconst (v := 2) (pc' := 42) C dX0_end_41 (by decide) rfl ?_
    refine p_X0_15 (pc' := 45) C dX0_end_42 (by first | assumption | exact rfl | exact al13 rfl | exact Nat.le_of_ble_eq_true rfl) rfl ?_
    exact g_vret C hR dX0_end_45 ⟨rfl, by simp [hE, c1], rfl⟩
  ·
    have c1 := b2_1.mp c1
    refine g_aload_n (pc' := 11) C dX0_end_10 rfl rfl ?_
    refine f_X0_28 (pc' := 14) C dX0_end_11 (by first | assumption | exact rfl | exact al13 rfl | exact Nat.le_of_ble_eq_true rfl) rfl ?_
    refine g_if_eq (tgt := 40) (pc' := 17) C dX0_end_14 (by decide) rfl (fun c2 => ?_) (fun c2 => ?_)
    ·
      refine g_aload_n (pc' := 41) C dX0_end_40 rfl rfl ?_
      refine g_iconst (v := 2) (pc' := 42) C dX0_end_41 (by decide) rfl ?_
      refine p_X0_15 (pc' := 45) C dX0_end_42 (by first | assumption | exact rfl | exact al13 rfl | exact Nat.le_of_ble_eq_true rfl) rfl ?_
      exact g_vret C hR dX0_end_45 ⟨rfl, by simp [hE, c1, c2], rfl⟩
    ·
      refine g_aload_n (pc' := 18) C dX0_end_17 rfl rfl ?_
      refine f_X0_32 (pc' := 21) C dX0_end_18 (by first | assumption | exact rfl | exact al13 rfl | exact Nat.le_of_ble_eq_true rfl) rfl ?_
      refine g_if_eq (tgt := 40) (pc' := 24) C dX0_end_21 (by decide) rfl (fun c3 => ?_) (fun c3 => ?_)
      ·
        refine g_aload_n (pc' := 41) C dX0_end_40 rfl rfl ?_
        refine g_iconst (v := 2) (pc' := 42) C dX0_end_41 (by decide) rfl ?_
        refine p_X0_15 (pc' := 45) C dX0_end_42 (by first | assumption | exact rfl | exact al13 rfl | exact Nat.le_of_ble_eq_true rfl) rfl ?_
        exact g_vret C hR dX0_end_45 ⟨rfl, by simp [hE, c1, c2, c3], rfl⟩
      ·
        refine g_aload_n (pc' := 25) C dX0_end_24 rfl rfl ?_
        refine g_iconst (v := 1) (pc' := 26) C dX0_end_25 (by decide) rfl ?_
        refine p_X0_15 (pc' := 29) C dX0_end_26 (by first | assumption | exact rfl | exact al13 rfl | exact Nat.le_of_ble_eq_true rfl) rfl ?_
        refine g_aload_n (pc' := 30) C dX0_end_29 rfl rfl ?_
        refine f_X0_38 (pc' := 33) C hm dX0_end_30 (by first | assumption | exact rfl | exact al13 rfl | exact Nat.le_of_ble_eq_true rfl) rfl ?_
        refine g_iconst (v := 1) (pc' := 34) C dX0_end_33 (by decide) rfl ?_
        refine p_X0_68 (pc' := 37) C dX0_end_34 (by first | assumption | exact rfl | exact al13 rfl | exact Nat.le_of_ble_eq_true rfl) rfl ?_
        refine g_goto (tgt := 45) C dX0_end_37 (by decide) ?_
        exact g_vret C hR dX0_end_45 ⟨rfl, by simp [hE, c1, c2, c3], rfl⟩
set_option maxRecDepth 20000 in
theorem m_X1_placeOf {l : Launch} {g : wG} {z : wZ} {I : wI} {P : wP} {O : wO} {x : Int32} : RT l yX1_placeOf cX1_placeOf 1 ((some .int)) { frames := 0, cells := 0, slots := 0, locals := 0 } g z [.int x] I P O (dp (some (.int (x &&& 15))) (I) (P)) := by
  refine RT.of (own := RX1) rfl (by decide +kernel) (Nat.le_of_ble_eq_true rfl) rfl (fun K C hl hg hR => ?_)
  subst hl
  subst hg
  refine g_iload_n (pc' := 1) C dX1_placeOf_0 rfl rfl ?_
  refine g_bipush (v := 15) (pc' := 3) C dX1_placeOf_1 (by decide) rfl ?_
  refine g_iand (pc' := 4) C dX1_placeOf_3 rfl ?_
  exact g_iret C hR dX1_placeOf_4 ⟨rfl, rfl, rfl⟩
set_option maxRecDepth 20000 in
theorem m_X1_knows {l : Launch} {g : wG} {z : wZ} {I : wI} {P : wP} {O : wO} {i : Nat} {x : Int32} (hi : wAl z 1 i) : RT l yX1_knows cX1_knows 2 ((some .boolean)) { frames := 0, cells := 0, slots := 0, locals := 0 } g z [.ref (g.2.2 1 i), .int x] I P O (dp (some (.int (b2 (kn I i x)))) (I) (P)) := by
  refine RT.of (own := RX1) rfl (by decide +kernel) (Nat.le_of_ble_eq_true rfl) rfl (fun K C hl hg hR => ?_)
  subst hl
  subst hg
  refine g_aload_n (pc' := 1) C dX1_knows_0 rfl rfl ?_
  refine f_X1_9 (pc' := 4) C dX1_knows_1 (by first | assumption | exact rfl | exact al13 rfl | exact Nat.le_of_ble_eq_true rfl) rfl ?_
  refine g_iload_n (pc' := 5) C dX1_knows_4 rfl rfl ?_
  refine g_ishr (pc' := 6) C dX1_knows_5 rfl ?_
  refine g_iconst (v := 1) (pc' := 7) C dX1_knows_6 (by decide) rfl ?_
  refine g_iand (pc' := 8) C dX1_knows_7 rfl ?_
  refine g_iconst (v := 1) (pc' := 9) C dX1_knows_8 (by decide) rfl ?_
  refine g_icmp_ne (tgt := 16) (pc' := 12) C dX1_knows_9 (by decide) rfl (fun c1 => ?_) (fun c1 => ?_)
  ·
    refine g_iconst (v := 0) (pc' := 17) C dX1_knows_16 (by decide) rfl ?_
    exact g_zret C hR dX1_knows_17 rfl ⟨by simp [b2, kn, c1], rfl, rfl⟩
  ·
    refine g_iconst (v := 1) (pc' := 13) C dX1_knows_12 (by decide) rfl ?_
    refine g_goto (tgt := 17) C dX1_knows_13 (by decide) ?_
    exact g_zret C hR dX1_knows_17 rfl ⟨by simp [b2, kn, c1], rfl, rfl⟩
set_option maxRecDepth 20000 in
theorem m_X1_payer {l : Launch} {g : wG} {z : wZ} {I : wI} {P : wP} {O : wO} {i : Nat} {x y : Int32} (hi : wAl z 1 i) : RT l yX1_payer cX1_payer 4 ((some (.object "Hearingpay$Matter"))) { frames := 1, cells := 0, slots := 0, locals := 20 } g z [.ref (g.2.2 1 i), .int x, .int y] I P O (dp (some (va_rf ((py I P i x y).map (g.2.2 2)))) (I) (P)) := by
  refine RT.of (own := RX1) rfl (by decide +kernel) (Nat.le_of_ble_eq_true rfl) rfl (fun K C hl hg hR => ?_)
  subst hl
  subst hg
  refine g_iload_n (pc' := 1) C dX1_payer_0 rfl rfl ?_
  refine k_X1_31 (pc' := 4) C (m_X1_placeOf) dX1_payer_1 ⟨⟨Nat.le_of_ble_eq_true rfl, Nat.le_of_ble_eq_true rfl⟩, rfl, rfl⟩ (Nat.le_of_ble_eq_true rfl) ⟨Nat.zero_le _, Nat.zero_le _⟩ rfl ?_
  refine g_istore_n (pc' := 5) C dX1_payer_4 rfl rfl ?_
  refine g_iload_n (pc' := 6) C dX1_payer_5 rfl rfl ?_
  refine g_iload_n (pc' := 7) C dX1_payer_6 rfl rfl ?_
  refine g_icmp_le (tgt := 29) (pc' := 10) C dX1_payer_7 (by decide) rfl (fun c1 => ?_) (fun c1 => ?_)
  ·
    refine g_null (pc' := 30) C dX1_payer_29 rfl ?_
    exact g_aret C hR dX1_payer_30 (Or.inl rfl) ⟨by simp [py, va_rf, c1], rfl, rfl⟩
  ·
    refine g_aload_n (pc' := 11) C dX1_payer_10 rfl rfl ?_
    refine f_X1_18 (pc' := 14) C dX1_payer_11 (by first | assumption | exact rfl | exact al13 rfl | exact Nat.le_of_ble_eq_true rfl) rfl ?_
    refine g_iload_n (pc' := 15) C dX1_payer_14 rfl rfl ?_
    refine g_iald (pc' := 16) C (rg x) (rg_eq x) (rg_lt x) dX1_payer_15 (by first | assumption | exact rfl | exact al13 rfl | exact Nat.le_of_ble_eq_true rfl) rfl rfl rfl ?_
    refine g_iload_n (pc' := 17) C dX1_payer_16 rfl rfl ?_
    refine g_icmp_ne (tgt := 29) (pc' := 20) C dX1_payer_17 (by decide) rfl (fun c2 => ?_) (fun c2 => ?_)
    ·
      refine g_null (pc' := 30) C dX1_payer_29 rfl ?_
      exact g_aret C hR dX1_payer_30 (Or.inl rfl) ⟨by simp [py, va_rf, c1, c2], rfl, rfl⟩
    ·
      refine g_aload_n (pc' := 21) C dX1_payer_20 rfl rfl ?_
      refine f_X1_24 (pc' := 24) C dX1_payer_21 (by first | assumption | exact rfl | exact al13 rfl | exact Nat.le_of_ble_eq_true rfl) rfl ?_
      refine g_iload_n (pc' := 25) C dX1_payer_24 rfl rfl ?_
      refine g_aald (pc' := 26) (t0 := 2) C (rg x) (rg_eq x) (rg_lt x) rfl dX1_payer_25 (by first | assumption | exact rfl | exact al13 rfl | exact Nat.le_of_ble_eq_true rfl) rfl rfl rfl rfl ?_
      refine g_goto (tgt := 30) C dX1_payer_26 (by decide) ?_
      exact g_aret C hR dX1_payer_30 (va_rf_or _) ⟨by simp [py, va_rf, c1, c2], rfl, rfl⟩
set_option maxRecDepth 20000 in
theorem m_X1_keep {l : Launch} {g : wG} {z : wZ} {I : wI} {P : wP} {O : wO} {i m : Nat} {x y : Int32} (hi : wAl z 1 i) (hm2 : wAl z 2 m) : RT l yX1_keep cX1_keep 5 (none) { frames := 1, cells := 0, slots := 0, locals := 20 } g z [.ref (g.2.2 1 i), .int x, .ref (g.2.2 2 m), .int y] I P O (dp (none) (kpI I i x y) (kpP P i m x)) := by
  refine RT.of (own := RX1) rfl (by decide +kernel) (Nat.le_of_ble_eq_true rfl) rfl (fun K C hl hg hR => ?_)
  subst hl
  subst hg
  refine g_iload_n (pc' := 1) C dX1_keep_0 rfl rfl ?_
  refine k_X1_31 (pc' := 4) C (m_X1_placeOf) dX1_keep_1 ⟨⟨Nat.le_of_ble_eq_true rfl, Nat.le_of_ble_eq_true rfl⟩, rfl, rfl⟩ (Nat.le_of_ble_eq_true rfl) ⟨Nat.zero_le _, Nat.zero_le _⟩ rfl ?_
  refine g_istore (pc' := 6) C dX1_keep_4 rfl rfl ?_
  refine g_aload_n (pc' := 7) C dX1_keep_6 rfl rfl ?_
  refine f_X1_18 (pc' := 10) C dX1_keep_7 (by first | assumption | exact rfl | exact al13 rfl | exact Nat.le_of_ble_eq_true rfl) rfl ?_
  refine g_iload (pc' := 12) C dX1_keep_10 rfl rfl ?_
  refine g_iload_n (pc' := 13) C dX1_keep_12 rfl rfl ?_
  refine g_iast (pc' := 14) C (rg x) (rg_eq x) (rg_lt x) dX1_keep_13 (by first | assumption | exact rfl | exact al13 rfl | exact Nat.le_of_ble_eq_true rfl) (fun _ => rfl) rfl rfl ?_
  refine g_aload_n (pc' := 15) C dX1_keep_14 rfl rfl ?_
  refine f_X1_24 (pc' := 18) C dX1_keep_15 (by first | assumption | exact rfl | exact al13 rfl | exact Nat.le_of_ble_eq_true rfl) rfl ?_
  refine g_iload (pc' := 20) C dX1_keep_18 rfl rfl ?_
  refine g_aload_n (pc' := 21) C dX1_keep_20 rfl rfl ?_
  refine g_aast (pc' := 22) (t0 := 2) C (rg x) (rg_eq x) (rg_lt x) dX1_keep_21 (by first | assumption | exact rfl | exact al13 rfl | exact Nat.le_of_ble_eq_true rfl) (by first | assumption | exact rfl | exact al13 rfl | exact Nat.le_of_ble_eq_true rfl) (fun _ => rfl) rfl rfl rfl rfl rfl ?_
  refine g_aload_n (pc' := 23) C dX1_keep_22 rfl rfl ?_
  refine f_X1_28 (pc' := 26) C dX1_keep_23 (by first | assumption | exact rfl | exact al13 rfl | exact Nat.le_of_ble_eq_true rfl) rfl ?_
  refine g_iload (pc' := 28) C dX1_keep_26 rfl rfl ?_
  refine g_iload_n (pc' := 29) C dX1_keep_28 rfl rfl ?_
  refine g_iast (pc' := 30) C (rg x) (rg_eq x) (rg_lt x) dX1_keep_29 (by first | assumption | exact rfl | exact al13 rfl | exact Nat.le_of_ble_eq_true rfl) (fun _ => rfl) rfl rfl ?_
  exact g_vret C hR dX1_keep_30 ⟨rfl, rfl, rfl⟩
set_option maxRecDepth 20000 in
theorem m_X1_take {l : Launch} {g : wG} {z : wZ} {I : wI} {P : wP} {O : wO} {i m : Nat} {x y : Int32} (hi : wAl z 1 i) (hm2 : wAl z 2 m) (hP9 : ∀ q, P 9 i (rg x) = some q → wAl z 2 q) : RT l yX1_take cX1_take 7 ((some .int)) { frames := 2, cells := 0, slots := 0, locals := 43 } g z [.ref (g.2.2 1 i), .int x, .int y, .ref (g.2.2 2 m)] I P O (dp (some (.int (tkR I P i m x y))) (tkI I P i m x y) (tkP I P i x y)) := by
  refine RT.of (own := RX1) rfl (by decide +kernel) (Nat.le_of_ble_eq_true rfl) rfl (fun K C hl hg hR => ?_)
  subst hl
  subst hg
  have hM : RT (Kl K) yX1_payer cX1_payer 4 (some (.object "Hearingpay$Matter")) { frames := 1, cells := 0, slots := 0, locals := 20 } (Kg K) z [.ref ((Kg K).2.2 1 i), .int x, .int y] I P O (dp (some (va_rf ((py I P i x y).map ((Kg K).2.2 2)))) I P) := m_X1_payer hi
  refine g_aload_n (pc' := 1) C dX1_take_0 rfl rfl ?_
  refine g_iload_n (pc' := 2) C dX1_take_1 rfl rfl ?_
  refine g_iload_n (pc' := 3) C dX1_take_2 rfl rfl ?_
  rcases hpy : py I P i x y with _ | q
  · rw [hpy] at hM
    refine k_X1_35 (pc' := 6) C hM dX1_take_3 (by first | assumption | exact rfl | exact al13 rfl | exact Nat.le_of_ble_eq_true rfl) ⟨⟨Nat.le_of_ble_eq_true rfl, Nat.le_of_ble_eq_true rfl⟩, rfl, rfl⟩ (Nat.le_of_ble_eq_true rfl) ⟨Nat.zero_le _, Nat.zero_le _⟩ rfl ?_
    refine g_astoreN (pc' := 8) C dX1_take_6 rfl rfl ?_
    refine g_aloadN (pc' := 10) C dX1_take_8 rfl rfl ?_
    refine g_ifnonnullN (pc' := 13) C dX1_take_10 rfl ?_
    refine g_aload_n (pc' := 14) C dX1_take_13 rfl rfl ?_
    refine f_X1_15 (pc' := 17) C dX1_take_14 (by first | assumption | exact rfl | exact al13 rfl | exact Nat.le_of_ble_eq_true rfl) rfl ?_
    exact g_iret C hR dX1_take_17 ⟨by simp [tkR, hpy], by simp [tkI, hpy], by simp [tkP, hpy]⟩
  · rw [hpy] at hM
    have hq2 : wAl z 2 q := hP9 q (by unfold py at hpy; split at hpy; exact hpy; cases hpy)
    refine k_X1_35 (pc' := 6) C hM dX1_take_3 (by first | assumption | exact rfl | exact al13 rfl | exact Nat.le_of_ble_eq_true rfl) ⟨⟨Nat.le_of_ble_eq_true rfl, Nat.le_of_ble_eq_true rfl⟩, rfl, rfl⟩ (Nat.le_of_ble_eq_true rfl) ⟨Nat.zero_le _, Nat.zero_le _⟩ rfl ?_
    refine g_astore (pc' := 8) C dX1_take_6 rfl rfl ?_
    refine g_aload (pc' := 10) C dX1_take_8 rfl rfl ?_
    refine g_ifnonnull (tgt := 18) C dX1_take_10 (by decide) ?_
    refine g_iload_n (pc' := 19) C dX1_take_18 rfl rfl ?_
    refine k_X1_31 (pc' := 22) C (m_X1_placeOf) dX1_take_19 ⟨⟨Nat.le_of_ble_eq_true rfl, Nat.le_of_ble_eq_true rfl⟩, rfl, rfl⟩ (Nat.le_of_ble_eq_true rfl) ⟨Nat.zero_le _, Nat.zero_le _⟩ rfl ?_
    refine g_istore (pc' := 24) C dX1_take_22 rfl rfl ?_
    refine g_aload_n (pc' := 25) C dX1_take_24 rfl rfl ?_
    refine f_X1_24 (pc' := 28) C dX1_take_25 (by first | assumption | exact rfl | exact al13 rfl | exact Nat.le_of_ble_eq_true rfl) rfl ?_
    refine g_iload (pc' := 30) C dX1_take_28 rfl rfl ?_
    refine g_null (pc' := 31) C dX1_take_30 rfl ?_
    refine g_aastN (pc' := 32) (t0 := 2) C (rg x) (rg_eq x) (rg_lt x) dX1_take_31 (by first | assumption | exact rfl | exact al13 rfl | exact Nat.le_of_ble_eq_true rfl) (fun _ => rfl) rfl rfl rfl ?_
    refine g_aload (pc' := 34) C dX1_take_32 rfl rfl ?_
    refine g_aload_n (pc' := 35) C dX1_take_34 rfl rfl ?_
    refine g_acmp_ne2 (tgt := 40) (pc' := 38) C (by first | assumption | exact rfl | exact al13 rfl | exact Nat.le_of_ble_eq_true rfl) (by first | assumption | exact rfl | exact al13 rfl | exact Nat.le_of_ble_eq_true rfl) dX1_take_35 (by decide) rfl (fun c1 => ?_) (fun c1 => ?_)
    ·
      refine g_aload_n (pc' := 41) C dX1_take_40 rfl rfl ?_
      refine f_X1_28 (pc' := 44) C dX1_take_41 (by first | assumption | exact rfl | exact al13 rfl | exact Nat.le_of_ble_eq_true rfl) rfl ?_
      refine g_iload (pc' := 46) C dX1_take_44 rfl rfl ?_
      refine g_iald (pc' := 47) C (rg x) (rg_eq x) (rg_lt x) dX1_take_46 (by first | assumption | exact rfl | exact al13 rfl | exact Nat.le_of_ble_eq_true rfl) rfl rfl rfl ?_
      refine g_iconst (v := 2) (pc' := 48) C dX1_take_47 (by decide) rfl ?_
      refine g_idiv (pc' := 49) C dX1_take_48 (by decide) rfl ?_
      refine g_istore (pc' := 51) C dX1_take_49 rfl rfl ?_
      refine g_aload (pc' := 53) C dX1_take_51 rfl rfl ?_
      refine g_dup (pc' := 54) C dX1_take_53 rfl rfl ?_
      refine f_X1_39 (pc' := 57) C dX1_take_54 (by first | assumption | exact rfl | exact al13 rfl | exact Nat.le_of_ble_eq_true rfl) rfl ?_
      refine g_iload (pc' := 59) C dX1_take_57 rfl rfl ?_
      refine g_iadd (pc' := 60) C dX1_take_59 rfl ?_
      refine p_X1_39 (pc' := 63) C dX1_take_60 (by first | assumption | exact rfl | exact al13 rfl | exact Nat.le_of_ble_eq_true rfl) rfl ?_
      refine g_iload (pc' := 65) C dX1_take_63 rfl rfl ?_
      exact g_iret C hR dX1_take_65 ⟨by simp [tkR, hpy, c1], by simp [tkI, hpy, c1], by simp [tkP, hpy, c1]⟩
    ·
      refine g_iconst (v := 0) (pc' := 39) C dX1_take_38 (by decide) rfl ?_
      exact g_iret C hR dX1_take_39 ⟨by simp [tkR, hpy, c1], by simp [tkI, hpy, c1], by simp [tkP, hpy, c1]⟩
set_option maxRecDepth 20000 in
theorem l_X1_hoursPaidBy {K : wK} {rm : Room} {z : wZ} {I : wI} {P : wP} {O : wO} {post : Option Value → wI → wP → Prop} {i m : Nat} {y : Int32} (C : Cx K cX1_hoursPaidBy RX1 5 (some .int) rm z) (hR : Rx K z O post) (hi : wAl z 1 i) (hm2 : wAl z 2 m) (hP9 : ∀ k q, k < 16 → P 9 i k = some q → wAl z 2 q) : ∀ (n k : Nat) (x3 x4 : Int32), x4 = nI k → k + n = 16 → post (some (.int (hpL I P i m y n k x3))) I P → G K z I P O 0 0 5 [(0, .ref ((Kg K).2.2 1 i)), (1, .ref ((Kg K).2.2 2 m)), (2, .int y), (3, .int x3), (4, .int x4)] [] := by
  intro n
  induction n with
  | zero =>
    intro k x3 x4 ex4 hk hpost
    refine g_iload (pc' := 7) C dX1_hoursPaidBy_5 rfl rfl ?_
    refine g_bipush (v := 16) (pc' := 9) C dX1_hoursPaidBy_7 (by decide) rfl ?_
    refine g_icmp_ge (tgt := 43) (pc' := 12) C dX1_hoursPaidBy_9 (by decide) rfl (fun _ => ?_) (fun h => absurd (by rw [ex4, show k = 16 by omega]; decide) h)
    refine g_iload_n (pc' := 44) C dX1_hoursPaidBy_43 rfl rfl ?_
    exact g_iret C hR dX1_hoursPaidBy_44 hpost
  | succ n ih =>
    intro k x3 x4 ex4 hk hpost
    refine g_iload (pc' := 7) C dX1_hoursPaidBy_5 rfl rfl ?_
    refine g_bipush (v := 16) (pc' := 9) C dX1_hoursPaidBy_7 (by decide) rfl ?_
    refine g_icmp_ge (tgt := 43) (pc' := 12) C dX1_hoursPaidBy_9 (by decide) rfl (fun c1 => absurd c1 (by rw [ex4]; exact nI_ge (a := k) (b := 16) (by omega) (by decide))) (fun c1 => ?_)
    refine g_aload_n (pc' := 13) C dX1_hoursPaidBy_12 rfl rfl ?_
    refine f_X1_24 (pc' := 16) C dX1_hoursPaidBy_13 (by first | assumption | exact rfl | exact al13 rfl | exact Nat.le_of_ble_eq_true rfl) rfl ?_
    refine g_iload (pc' := 18) C dX1_hoursPaidBy_16 rfl rfl ?_
    rcases hq : P 9 i k with _ | q
    · refine g_aald (pc' := 19) (t0 := 2) C k ex4 (by omega) hq dX1_hoursPaidBy_18 (by first | assumption | exact rfl | exact al13 rfl | exact Nat.le_of_ble_eq_true rfl) rfl rfl rfl rfl ?_
      refine g_aload_n (pc' := 20) C dX1_hoursPaidBy_19 rfl rfl ?_
      refine g_acmp_ne (x := none) (y := some _) (tgt := 37) (pc' := 23) C dX1_hoursPaidBy_20 (by decide) rfl (fun _ => ?_) (fun h => by cases h)
      refine g_iinc (pc' := 40) C dX1_hoursPaidBy_37 rfl (ii1 _) rfl rfl ?_
      refine g_goto (tgt := 5) C dX1_hoursPaidBy_40 (by decide) ?_
      refine (ih (k + 1) _ _ (by rw [ex4]; exact (nI_1 k)) (by omega) ?_)
      simpa [hpL, c1, hq] using hpost
    · have hq2 : wAl z 2 q := hP9 k q (by omega) hq
      refine g_aald (pc' := 19) (t0 := 2) C k ex4 (by omega) hq dX1_hoursPaidBy_18 (by first | assumption | exact rfl | exact al13 rfl | exact Nat.le_of_ble_eq_true rfl) rfl rfl rfl rfl ?_
      refine g_aload_n (pc' := 20) C dX1_hoursPaidBy_19 rfl rfl ?_
      refine g_acmp_ne2 (tgt := 37) (pc' := 23) C (by first | assumption | exact rfl | exact al13 rfl | exact Nat.le_of_ble_eq_true rfl) (by first | assumption | exact rfl | exact al13 rfl | exact Nat.le_of_ble_eq_true rfl) dX1_hoursPaidBy_20 (by decide) rfl (fun c2 => ?_) (fun c2 => ?_)
      ·
        refine g_iinc (pc' := 40) C dX1_hoursPaidBy_37 rfl (ii1 _) rfl rfl ?_
        refine g_goto (tgt := 5) C dX1_hoursPaidBy_40 (by decide) ?_
        refine (ih (k + 1) _ _ (by rw [ex4]; exact (nI_1 k)) (by omega) ?_)
        simpa [hpL, c1, hq, c2] using hpost
      ·
        refine g_aload_n (pc' := 24) C dX1_hoursPaidBy_23 rfl rfl ?_
        refine f_X1_18 (pc' := 27) C dX1_hoursPaidBy_24 (by first | assumption | exact rfl | exact al13 rfl | exact Nat.le_of_ble_eq_true rfl) rfl ?_
        refine g_iload (pc' := 29) C dX1_hoursPaidBy_27 rfl rfl ?_
        refine g_iald (pc' := 30) C (k) ex4 (by omega) dX1_hoursPaidBy_29 (by first | assumption | exact rfl | exact al13 rfl | exact Nat.le_of_ble_eq_true rfl) rfl rfl rfl ?_
        refine g_iload_n (pc' := 31) C dX1_hoursPaidBy_30 rfl rfl ?_
        refine g_icmp_le (tgt := 37) (pc' := 34) C dX1_hoursPaidBy_31 (by decide) rfl (fun c3 => ?_) (fun c3 => ?_)
        ·
          refine g_iinc (pc' := 40) C dX1_hoursPaidBy_37 rfl (ii1 _) rfl rfl ?_
          refine g_goto (tgt := 5) C dX1_hoursPaidBy_40 (by decide) ?_
          refine (ih (k + 1) _ _ (by rw [ex4]; exact (nI_1 k)) (by omega) ?_)
          simpa [hpL, c1, hq, c2, c3] using hpost
        ·
          refine g_iinc (pc' := 37) C dX1_hoursPaidBy_34 rfl (ii1 _) rfl rfl ?_
          refine g_iinc (pc' := 40) C dX1_hoursPaidBy_37 rfl (ii1 _) rfl rfl ?_
          refine g_goto (tgt := 5) C dX1_hoursPaidBy_40 (by decide) ?_
          refine (ih (k + 1) _ _ (by rw [ex4]; exact (nI_1 k)) (by omega) ?_)
          simpa [hpL, c1, hq, c2, c3] using hpost
set_option maxRecDepth 20000 in
theorem m_X1_hoursPaidBy {l : Launch} {g : wG} {z : wZ} {I : wI} {P : wP} {O : wO} {i m : Nat} {y : Int32} (hi : wAl z 1 i) (hm2 : wAl z 2 m) (hP9 : ∀ k q, k < 16 → P 9 i k = some q → wAl z 2 q) : RT l yX1_hoursPaidBy cX1_hoursPaidBy 5 ((some .int)) { frames := 0, cells := 0, slots := 0, locals := 0 } g z [.ref (g.2.2 1 i), .ref (g.2.2 2 m), .int y] I P O (dp (some (.int (hpL I P i m y 16 0 0))) (I) (P)) := by
  refine RT.of (own := RX1) rfl (by decide +kernel) (Nat.le_of_ble_eq_true rfl) rfl (fun K C hl hg hR => ?_)
  subst hl
  subst hg
  refine g_iconst (v := 0) (pc' := 1) C dX1_hoursPaidBy_0 (by decide) rfl ?_
  refine g_istore_n (pc' := 2) C dX1_hoursPaidBy_1 rfl rfl ?_
  refine g_iconst (v := 0) (pc' := 3) C dX1_hoursPaidBy_2 (by decide) rfl ?_
  refine g_istore (pc' := 5) C dX1_hoursPaidBy_3 rfl rfl ?_
  exact l_X1_hoursPaidBy C hR hi hm2 hP9 16 0 0 0 nI_0.symm rfl ⟨rfl, rfl, rfl⟩
end WLeaf
end
section
section WHelp
theorem G_pick {K : wK} {z : wZ} {I : wI} {P : wP} {O : wO} {c n pc : Nat} {L L' : List (Nat × Value)} {S : List Value} (ks : List Nat) (h : lv_pick L ks = L') (kk : G K z I P O c n pc L' S) : G K z I P O c n pc L S := by
  obtain ⟨p, l, e, R, s, m, args, below, meth, cd, Q, g, A⟩ := K
  intro H locs ls hH hS hl hc
  refine kk H locs ls hH hS (lv_sub hl ks h) (fun q hq => ?_)
  rw [← h] at hq
  obtain ⟨k, -, hk⟩ := List.mem_filterMap.mp hq
  exact hc q (List.mem_of_getElem? hk)
def inn (x c : Int32) : Bool := !decide (x < 0) && !decide (c ≤ x)
def mx (P : wP) (h : Nat) : Nat := (P 3 h 1).getD 0
def hrN (I : wI) (h : Nat) : Nat := (I 3 h 2).toNatClampNeg
def fsN (I : wI) (m : Nat) : Nat := (I 2 m 2).toNatClampNeg
def XI (z : wZ) (I : wI) (P : wP) : Prop := z.1 ≤ 12 ∧ z.2 ≤ 24 ∧ I 0 0 4 = nI z.1 ∧ I 0 0 5 = nI z.2 ∧ (∀ j, j < z.1 → P 6 0 j = some j) ∧ (∀ j, j < z.2 → P 7 0 j = some j) ∧ (∀ j, j < 4 → P 4 0 j = some j) ∧ (∀ h, h < z.2 → P 3 h 1 = some (mx P h) ∧ mx P h < z.1) ∧ (∀ i p q, i < 4 → p < 16 → P 9 i p = some q → q < z.1) ∧ (∀ h, h < z.2 → I 3 h 2 = nI (hrN I h) ∧ hrN I h ≤ 4) ∧ (∀ m, m < z.1 → I 2 m 2 = nI (fsN I m) ∧ fsN I m < 6)
theorem XI.hm {z : wZ} {I : wI} {P : wP} {h : Nat} (X : XI z I P) (hh : wAl z 3 h) : P 3 h 1 = some (mx P h) := (X.2.2.2.2.2.2.2.1 h hh).1
theorem XI.hm2 {z : wZ} {I : wI} {P : wP} {h : Nat} (X : XI z I P) (hh : wAl z 3 h) : wAl z 2 (mx P h) := (X.2.2.2.2.2.2.2.1 h hh).2
theorem XI.h9 {z : wZ} {I : wI} {P : wP} {i p q : Nat} (X : XI z I P) (hi : wAl z 1 i) (hp : p < 16) (h : P 9 i p = some q) : wAl z 2 q := X.2.2.2.2.2.2.2.2.1 i p q hi hp h
theorem XI.hr {z : wZ} {I : wI} {P : wP} {h : Nat} (X : XI z I P) (hh : wAl z 3 h) : I 3 h 2 = nI (hrN I h) := (X.2.2.2.2.2.2.2.2.2.1 h hh).1
theorem XI.hr4 {z : wZ} {I : wI} {P : wP} {h : Nat} (X : XI z I P) (hh : wAl z 3 h) : hrN I h ≤ 4 := (X.2.2.2.2.2.2.2.2.2.1 h hh).2
theorem XI.fs {z : wZ} {I : wI} {P : wP} {m : Nat} (X : XI z I P) (hm : wAl z 2 m) : I 2 m 2 = nI (fsN I m) := (X.2.2.2.2.2.2.2.2.2.2 m hm).1
theorem XI.fs6 {z : wZ} {I : wI} {P : wP} {m : Nat} (X : XI z I P) (hm : wAl z 2 m) : fsN I m < 6 := (X.2.2.2.2.2.2.2.2.2.2 m hm).2
theorem XI.of {z : wZ} {I I' : wI} {P P' : wP} (X : XI z I P) (h4 : I' 0 0 4 = I 0 0 4) (h5 : I' 0 0 5 = I 0 0 5) (h2 : ∀ h, I' 3 h 2 = I 3 h 2) (hf : ∀ m, I' 2 m 2 = I 2 m 2) (hP : ∀ k i, k ≠ 9 → P' k i = P k i) (hP9 : ∀ i p q, i < 4 → p < 16 → P' 9 i p = some q → q < z.1) : XI z I' P' := by
  obtain ⟨a, b, c, d, e, f, g, h, i, j, k⟩ := X
  refine ⟨a, b, h4.trans c, h5.trans d, fun q hq => ?_, fun q hq => ?_, fun q hq => ?_, fun q hq => ?_, hP9, fun q hq => ?_, fun q hq => ?_⟩
  · rw [hP 6 0 (by decide)]; exact e q hq
  · rw [hP 7 0 (by decide)]; exact f q hq
  · rw [hP 4 0 (by decide)]; exact g q hq
  · unfold mx; rw [hP 3 q (by decide)]; exact h q hq
  · unfold hrN; rw [h2 q]; exact j q hq
  · unfold fsN; rw [hf q]; exact k q hq
theorem in_of (x : Int32) (n : Nat) (hn : n < 2 ^ 31) : (∃ j : Nat, j < n ∧ x = nI j) ∨ (x < 0 ∨ nI n ≤ x) := by
  rcases pk_ix x hn with h | h | ⟨j, h1, h2⟩
  · exact Or.inr (Or.inl h)
  · exact Or.inr (Or.inr h)
  · exact Or.inl ⟨j, h1, h2⟩
def asN (I : wI) (m : Nat) (x : Int32) : Bool := if I 2 m 4 = -1 then decide (x < 0 ∨ 4 ≤ x) else (!decide (x < 0 ∨ 4 ≤ x)) && kn I x.toNatClampNeg (I 2 m 4)
def crS (I : wI) (P : wP) (it : Option Nat) (m : Nat) (r itp fr oh : Int32) (h : Nat) (x : Int32) : Int32 := if it = some h ∨ ¬ tp I h fr oh = true then x else if ¬ ra I (mx P h) h m r itp = 0 ∧ (x = 0 ∨ ¬ x ≤ ra I (mx P h) h m r itp) then ra I (mx P h) h m r itp else x
def crL (I : wI) (P : wP) (it : Option Nat) (m : Nat) (r itp fr oh : Int32) : Nat → Nat → Int32 → Int32
  | 0, _, x => x
  | n + 1, h, x => crL I P it m r itp fr oh n (h + 1) (crS I P it m r itp fr oh h x)
def ff (I : wI) (m : Nat) (fee : Int32) : Int32 := if I 5 0 (fsN I m) = 0 then fee else 0
def ptS (i m h : Nat) (fr now : Int32) (k : Nat) (s : wI × wP) : wI × wP := (upI (tkI s.1 s.2 i m (fr + nI k) now) 11 h k (tkR s.1 s.2 i m (fr + nI k) now), tkP s.1 s.2 i (fr + nI k) now)
def ptL (i m h : Nat) (fr now : Int32) : Nat → Nat → wI × wP → wI × wP
  | 0, _, s => s
  | n + 1, k, s => ptL i m h fr now n (k + 1) (ptS i m h fr now k s)
def p0L (h : Nat) : Nat → Nat → wI → wI
  | 0, _, I => I
  | n + 1, k, I => p0L h n (k + 1) (upI I 11 h k 0)
def putB (I : wI) (m h : Nat) : wI := upI I 2 m 6 (I 2 m 6 - chg I h)
def lvS (i m h : Nat) (k : Nat) (s : wI × wP) : wI × wP := (kpI s.1 i (s.1 3 h 7 + nI k) (s.1 11 h k), kpP s.2 i m (s.1 3 h 7 + nI k))
def lvL (i m h : Nat) : Nat → Nat → wI × wP → wI × wP
  | 0, _, s => s
  | n + 1, k, s => lvL i m h n (k + 1) (lvS i m h k s)
def blL (I : wI) : Nat → Nat → Int32 → Int32
  | 0, _, x => x
  | n + 1, m, x => blL I n (m + 1) (x + I 2 m 6)
set_option maxRecDepth 20000 in
theorem m_X3_isIn {l : Launch} {g : wG} {z : wZ} {I : wI} {P : wP} {O : wO} {x y : Int32} : RT l yX3_isIn cX3_isIn 2 ((some .boolean)) { frames := 0, cells := 0, slots := 0, locals := 0 } g z [.int x, .int y] I P O (dp (some (.int (b2 (inn x y)))) (I) (P)) := by
  refine RT.of (own := RX3) rfl (by decide +kernel) (Nat.le_of_ble_eq_true rfl) rfl (fun K C hl hg hR => ?_)
  subst hl
  subst hg
  refine g_iload_n (pc' := 1) C dX3_isIn_0 rfl rfl ?_
  refine g_if_lt (tgt := 13) (pc' := 4) C dX3_isIn_1 (by decide) rfl (fun c1 => ?_) (fun c1 => ?_)
  ·
    refine g_iconst (v := 0) (pc' := 14) C dX3_isIn_13 (by decide) rfl ?_
    exact g_zret C hR dX3_isIn_14 rfl ⟨by simp [b2, inn, c1], rfl, rfl⟩
  ·
    refine g_iload_n (pc' := 5) C dX3_isIn_4 rfl rfl ?_
    refine g_iload_n (pc' := 6) C dX3_isIn_5 rfl rfl ?_
    refine g_icmp_ge (tgt := 13) (pc' := 9) C dX3_isIn_6 (by decide) rfl (fun c2 => ?_) (fun c2 => ?_)
    ·
      refine g_iconst (v := 0) (pc' := 14) C dX3_isIn_13 (by decide) rfl ?_
      exact g_zret C hR dX3_isIn_14 rfl ⟨by simp [b2, inn, c1, c2], rfl, rfl⟩
    ·
      refine g_iconst (v := 1) (pc' := 10) C dX3_isIn_9 (by decide) rfl ?_
      refine g_goto (tgt := 14) C dX3_isIn_10 (by decide) ?_
      exact g_zret C hR dX3_isIn_14 rfl ⟨by simp [b2, inn, c1, c2], rfl, rfl⟩
set_option maxRecDepth 20000 in
theorem m_X3_isInOrNone {l : Launch} {g : wG} {z : wZ} {I : wI} {P : wP} {O : wO} {x y : Int32} : RT l yX3_isInOrNone cX3_isInOrNone 2 ((some .boolean)) { frames := 1, cells := 0, slots := 0, locals := 21 } g z [.int x, .int y] I P O (dp (some (.int (b2 (decide (x = -1) || inn x y)))) (I) (P)) := by
  refine RT.of (own := RX3) rfl (by decide +kernel) (Nat.le_of_ble_eq_true rfl) rfl (fun K C hl hg hR => ?_)
  subst hl
  subst hg
  refine g_iload_n (pc' := 1) C dX3_isInOrNone_0 rfl rfl ?_
  refine g_iconst (v := (-1)) (pc' := 2) C dX3_isInOrNone_1 (by decide) rfl ?_
  refine g_icmp_eq (tgt := 13) (pc' := 5) C dX3_isInOrNone_2 (by decide) rfl (fun c1 => ?_) (fun c1 => ?_)
  ·
    refine g_iconst (v := 1) (pc' := 14) C dX3_isInOrNone_13 (by decide) rfl ?_
    refine g_goto (tgt := 18) C dX3_isInOrNone_14 (by decide) ?_
    exact g_zret C hR dX3_isInOrNone_18 rfl ⟨by simp [b2, c1], rfl, rfl⟩
  ·
    refine g_iload_n (pc' := 6) C dX3_isInOrNone_5 rfl rfl ?_
    refine g_iload_n (pc' := 7) C dX3_isInOrNone_6 rfl rfl ?_
    refine k_X3_66 (pc' := 10) C (m_X3_isIn) dX3_isInOrNone_7 ⟨⟨Nat.le_of_ble_eq_true rfl, Nat.le_of_ble_eq_true rfl⟩, rfl, rfl⟩ (Nat.le_of_ble_eq_true rfl) ⟨Nat.zero_le _, Nat.zero_le _⟩ rfl ?_
    refine g_if_eq (tgt := 17) (pc' := 13) C dX3_isInOrNone_10 (by decide) rfl (fun c2 => ?_) (fun c2 => ?_)
    ·
      have c2 := b2_0.mp c2
      refine g_iconst (v := 0) (pc' := 18) C dX3_isInOrNone_17 (by decide) rfl ?_
      exact g_zret C hR dX3_isInOrNone_18 rfl ⟨by simp [b2, c1, c2], rfl, rfl⟩
    ·
      have c2 := b2_1.mp c2
      refine g_iconst (v := 1) (pc' := 14) C dX3_isInOrNone_13 (by decide) rfl ?_
      refine g_goto (tgt := 18) C dX3_isInOrNone_14 (by decide) ?_
      exact g_zret C hR dX3_isInOrNone_18 rfl ⟨by simp [b2, c1, c2], rfl, rfl⟩
set_option maxRecDepth 20000 in
theorem m_X3_isCalendarHour {l : Launch} {g : wG} {z : wZ} {I : wI} {P : wP} {O : wO} {x : Int32} : RT l yX3_isCalendarHour cX3_isCalendarHour 1 ((some .boolean)) { frames := 0, cells := 0, slots := 0, locals := 0 } g z [.int x] I P O (dp (some (.int (b2 (!decide (x < 0) && !decide (1003 < x))))) (I) (P)) := by
  refine RT.of (own := RX3) rfl (by decide +kernel) (Nat.le_of_ble_eq_true rfl) rfl (fun K C hl hg hR => ?_)
  subst hl
  subst hg
  refine g_iload_n (pc' := 1) C dX3_isCalendarHour_0 rfl rfl ?_
  refine g_if_lt (tgt := 15) (pc' := 4) C dX3_isCalendarHour_1 (by decide) rfl (fun c1 => ?_) (fun c1 => ?_)
  ·
    refine g_iconst (v := 0) (pc' := 16) C dX3_isCalendarHour_15 (by decide) rfl ?_
    exact g_zret C hR dX3_isCalendarHour_16 rfl ⟨by simp [b2, inn, c1], rfl, rfl⟩
  ·
    refine g_iload_n (pc' := 5) C dX3_isCalendarHour_4 rfl rfl ?_
    refine g_sipush (v := 1003) (pc' := 8) C dX3_isCalendarHour_5 (by decide) rfl ?_
    refine g_icmp_gt (tgt := 15) (pc' := 11) C dX3_isCalendarHour_8 (by decide) rfl (fun c2 => ?_) (fun c2 => ?_)
    ·
      refine g_iconst (v := 0) (pc' := 16) C dX3_isCalendarHour_15 (by decide) rfl ?_
      exact g_zret C hR dX3_isCalendarHour_16 rfl ⟨by simp [b2, inn, c1, c2], rfl, rfl⟩
    ·
      refine g_iconst (v := 1) (pc' := 12) C dX3_isCalendarHour_11 (by decide) rfl ?_
      refine g_goto (tgt := 16) C dX3_isCalendarHour_12 (by decide) ?_
      exact g_zret C hR dX3_isCalendarHour_16 rfl ⟨by simp [b2, inn, c1, c2], rfl, rfl⟩
set_option maxRecDepth 20000 in
theorem m_X3_howMany {l : Launch} {g : wG} {z : wZ} {I : wI} {P : wP} {O : wO} {x : Int32} : RT l yX3_howMany cX3_howMany 1 ((some .int)) { frames := 0, cells := 0, slots := 0, locals := 0 } g z [.int x] I P O (dp (some (.int (if x = 0 then 4 else if x = 1 then 4 else if x = 2 then 6 else 4))) (I) (P)) := by
  refine RT.of (own := RX3) rfl (by decide +kernel) (Nat.le_of_ble_eq_true rfl) rfl (fun K C hl hg hR => ?_)
  subst hl
  subst hg
  refine g_iload_n (pc' := 1) C dX3_howMany_0 rfl rfl ?_
  rcases tsw2 x with hw | hw | hw | hw
  · refine g_tabIn (tgt := 28) C 0 (by rw [hw]; rfl) dX3_howMany_1 (by decide) (by decide) rfl (by decide) ?_
    refine g_iconst (v := 4) (pc' := 29) C dX3_howMany_28 (by decide) rfl ?_
    exact g_iret C hR dX3_howMany_29 ⟨by simp [hw], rfl, rfl⟩
  · refine g_tabIn (tgt := 30) C 1 (by rw [hw]; rfl) dX3_howMany_1 (by decide) (by decide) rfl (by decide) ?_
    refine g_iconst (v := 4) (pc' := 31) C dX3_howMany_30 (by decide) rfl ?_
    exact g_iret C hR dX3_howMany_31 ⟨by simp [hw], rfl, rfl⟩
  · refine g_tabIn (tgt := 32) C 2 (by rw [hw]; rfl) dX3_howMany_1 (by decide) (by decide) rfl (by decide) ?_
    refine g_bipush (v := 6) (pc' := 34) C dX3_howMany_32 (by decide) rfl ?_
    exact g_iret C hR dX3_howMany_34 ⟨by simp [hw], rfl, rfl⟩
  · have h0 : ¬ x = 0 := fun e => by rw [e] at hw; exact absurd hw (by decide)
    have h1 : ¬ x = 1 := fun e => by rw [e] at hw; exact absurd hw (by decide)
    have h2 : ¬ x = 2 := fun e => by rw [e] at hw; exact absurd hw (by decide)
    refine g_tabOut (tgt := 35) C dX3_howMany_1 hw (by decide) ?_
    refine g_iconst (v := 4) (pc' := 36) C dX3_howMany_35 (by decide) rfl ?_
    exact g_iret C hR dX3_howMany_36 ⟨by simp [h0, h1, h2], rfl, rfl⟩
set_option maxRecDepth 20000 in
theorem m_X3_interpreterAtS {l : Launch} {g : wG} {z : wZ} {I : wI} {P : wP} {O : wO} {x : Int32} {j : Nat} (hj : x = nI j) (hj4 : j < 4) (hq : P 4 0 j = some j) : RT l yX3_interpreterAt cX3_interpreterAt 2 ((some (.object "Hearingpay$Interpreter"))) { frames := 0, cells := 0, slots := 0, locals := 0 } g z [.ref (g.2.2 0 0), .int x] I P O (dp (some (.ref (g.2.2 1 j))) (I) (P)) := by
  refine RT.of (own := RX3) rfl (by decide +kernel) (Nat.le_of_ble_eq_true rfl) rfl (fun K C hl hg hR => ?_)
  subst hl
  subst hg
  refine g_iload_n (pc' := 1) C dX3_interpreterAt_0 rfl rfl ?_
  refine g_if_lt (tgt := 22) (pc' := 4) C dX3_interpreterAt_1 (by decide) rfl (fun c1 => absurd c1 (by rw [hj]; exact nI_pos (by omega))) (fun c1 => ?_)
  refine g_iload_n (pc' := 5) C dX3_interpreterAt_4 rfl rfl ?_
  refine g_aload_n (pc' := 6) C dX3_interpreterAt_5 rfl rfl ?_
  refine f_X3_11 (pc' := 9) C dX3_interpreterAt_6 (by first | assumption | exact rfl | exact al13 rfl | exact Nat.le_of_ble_eq_true rfl) rfl ?_
  refine g_alen (pc' := 10) (v := 4) (t0 := 4) C dX3_interpreterAt_9 (by first | assumption | exact rfl | exact al13 rfl | exact Nat.le_of_ble_eq_true rfl) rfl rfl rfl rfl ?_
  refine g_icmp_ge (tgt := 22) (pc' := 13) C dX3_interpreterAt_10 (by decide) rfl (fun c2 => absurd c2 (by rw [hj]; exact nI_ge (a := j) (b := 4) (by omega) (by omega))) (fun c2 => ?_)
  refine g_aload_n (pc' := 14) C dX3_interpreterAt_13 rfl rfl ?_
  refine f_X3_11 (pc' := 17) C dX3_interpreterAt_14 (by first | assumption | exact rfl | exact al13 rfl | exact Nat.le_of_ble_eq_true rfl) rfl ?_
  refine g_iload_n (pc' := 18) C dX3_interpreterAt_17 rfl rfl ?_
  refine g_aald (pc' := 19) (t0 := 4) C (j) hj hj4 hq dX3_interpreterAt_18 (by first | assumption | exact rfl | exact al13 rfl | exact Nat.le_of_ble_eq_true rfl) rfl rfl rfl rfl ?_
  refine g_goto (tgt := 23) C dX3_interpreterAt_19 (by decide) ?_
  exact g_aret C hR dX3_interpreterAt_23 (Or.inr ⟨_, rfl⟩) ⟨rfl, rfl, rfl⟩
set_option maxRecDepth 20000 in
theorem m_X3_interpreterAtN {l : Launch} {g : wG} {z : wZ} {I : wI} {P : wP} {O : wO} {x : Int32} (h : x < 0 ∨ 4 ≤ x) : RT l yX3_interpreterAt cX3_interpreterAt 2 ((some (.object "Hearingpay$Interpreter"))) { frames := 0, cells := 0, slots := 0, locals := 0 } g z [.ref (g.2.2 0 0), .int x] I P O (dp (some (.null)) (I) (P)) := by
  refine RT.of (own := RX3) rfl (by decide +kernel) (Nat.le_of_ble_eq_true rfl) rfl (fun K C hl hg hR => ?_)
  subst hl
  subst hg
  refine g_iload_n (pc' := 1) C dX3_interpreterAt_0 rfl rfl ?_
  refine g_if_lt (tgt := 22) (pc' := 4) C dX3_interpreterAt_1 (by decide) rfl (fun c1 => ?_) (fun c1 => ?_)
  ·
    refine g_null (pc' := 23) C dX3_interpreterAt_22 rfl ?_
    exact g_aret C hR dX3_interpreterAt_23 (Or.inl rfl) ⟨rfl, rfl, rfl⟩
  ·
    refine g_iload_n (pc' := 5) C dX3_interpreterAt_4 rfl rfl ?_
    refine g_aload_n (pc' := 6) C dX3_interpreterAt_5 rfl rfl ?_
    refine f_X3_11 (pc' := 9) C dX3_interpreterAt_6 (by first | assumption | exact rfl | exact al13 rfl | exact Nat.le_of_ble_eq_true rfl) rfl ?_
    refine g_alen (pc' := 10) (v := 4) (t0 := 4) C dX3_interpreterAt_9 (by first | assumption | exact rfl | exact al13 rfl | exact Nat.le_of_ble_eq_true rfl) rfl rfl rfl rfl ?_
    refine g_icmp_ge (tgt := 22) (pc' := 13) C dX3_interpreterAt_10 (by decide) rfl (fun c2 => ?_) (fun c2 => absurd (h.resolve_left c1) c2)
    refine g_null (pc' := 23) C dX3_interpreterAt_22 rfl ?_
    exact g_aret C hR dX3_interpreterAt_23 (Or.inl rfl) ⟨rfl, rfl, rfl⟩
set_option maxRecDepth 20000 in
theorem m_X3_matterAtS {l : Launch} {g : wG} {z : wZ} {I : wI} {P : wP} {O : wO} {x : Int32} {j : Nat} (X : XI z I P) (hj : x = nI j) (hj4 : j < z.1) : RT l yX3_matterAt cX3_matterAt 2 ((some (.object "Hearingpay$Matter"))) { frames := 0, cells := 0, slots := 0, locals := 0 } g z [.ref (g.2.2 0 0), .int x] I P O (dp (some (.ref (g.2.2 2 j))) (I) (P)) := by
  refine RT.of (own := RX3) rfl (by decide +kernel) (Nat.le_of_ble_eq_true rfl) rfl (fun K C hl hg hR => ?_)
  subst hl
  subst hg
  have hc := X.2.2.1
  have hcap := X.1
  refine g_iload_n (pc' := 1) C dX3_matterAt_0 rfl rfl ?_
  refine g_if_lt (tgt := 30) (pc' := 4) C dX3_matterAt_1 (by decide) rfl (fun c1 => absurd c1 (by rw [hj]; exact nI_pos (by omega))) (fun c1 => ?_)
  refine g_iload_n (pc' := 5) C dX3_matterAt_4 rfl rfl ?_
  refine g_aload_n (pc' := 6) C dX3_matterAt_5 rfl rfl ?_
  refine f_X3_31 (pc' := 9) C dX3_matterAt_6 (by first | assumption | exact rfl | exact al13 rfl | exact Nat.le_of_ble_eq_true rfl) rfl ?_
  refine g_icmp_ge (tgt := 30) (pc' := 12) C dX3_matterAt_9 (by decide) rfl (fun c2 => absurd c2 (by rw [hj, hc]; exact nI_ge (by omega) (by omega))) (fun c2 => ?_)
  refine g_iload_n (pc' := 13) C dX3_matterAt_12 rfl rfl ?_
  refine g_aload_n (pc' := 14) C dX3_matterAt_13 rfl rfl ?_
  refine f_X3_21 (pc' := 17) C dX3_matterAt_14 (by first | assumption | exact rfl | exact al13 rfl | exact Nat.le_of_ble_eq_true rfl) rfl ?_
  refine g_alen (pc' := 18) (v := 12) (t0 := 2) C dX3_matterAt_17 (by first | assumption | exact rfl | exact al13 rfl | exact Nat.le_of_ble_eq_true rfl) rfl rfl rfl rfl ?_
  refine g_icmp_ge (tgt := 30) (pc' := 21) C dX3_matterAt_18 (by decide) rfl (fun c3 => absurd c3 (by rw [hj]; exact nI_ge (a := j) (b := 12) (by omega) (by omega))) (fun c3 => ?_)
  refine g_aload_n (pc' := 22) C dX3_matterAt_21 rfl rfl ?_
  refine f_X3_21 (pc' := 25) C dX3_matterAt_22 (by first | assumption | exact rfl | exact al13 rfl | exact Nat.le_of_ble_eq_true rfl) rfl ?_
  refine g_iload_n (pc' := 26) C dX3_matterAt_25 rfl rfl ?_
  refine g_aald (pc' := 27) (t0 := 2) C (j) hj (by omega) (X.2.2.2.2.1 j hj4) dX3_matterAt_26 (by first | assumption | exact rfl | exact al13 rfl | exact Nat.le_of_ble_eq_true rfl) rfl rfl rfl rfl ?_
  refine g_goto (tgt := 31) C dX3_matterAt_27 (by decide) ?_
  exact g_aret C hR dX3_matterAt_31 (Or.inr ⟨_, rfl⟩) ⟨rfl, rfl, rfl⟩
set_option maxRecDepth 20000 in
theorem m_X3_matterAtN {l : Launch} {g : wG} {z : wZ} {I : wI} {P : wP} {O : wO} {x : Int32} (X : XI z I P) (h : x < 0 ∨ nI z.1 ≤ x) : RT l yX3_matterAt cX3_matterAt 2 ((some (.object "Hearingpay$Matter"))) { frames := 0, cells := 0, slots := 0, locals := 0 } g z [.ref (g.2.2 0 0), .int x] I P O (dp (some (.null)) (I) (P)) := by
  refine RT.of (own := RX3) rfl (by decide +kernel) (Nat.le_of_ble_eq_true rfl) rfl (fun K C hl hg hR => ?_)
  subst hl
  subst hg
  refine g_iload_n (pc' := 1) C dX3_matterAt_0 rfl rfl ?_
  refine g_if_lt (tgt := 30) (pc' := 4) C dX3_matterAt_1 (by decide) rfl (fun c1 => ?_) (fun c1 => ?_)
  ·
    refine g_null (pc' := 31) C dX3_matterAt_30 rfl ?_
    exact g_aret C hR dX3_matterAt_31 (Or.inl rfl) ⟨rfl, rfl, rfl⟩
  ·
    refine g_iload_n (pc' := 5) C dX3_matterAt_4 rfl rfl ?_
    refine g_aload_n (pc' := 6) C dX3_matterAt_5 rfl rfl ?_
    refine f_X3_31 (pc' := 9) C dX3_matterAt_6 (by first | assumption | exact rfl | exact al13 rfl | exact Nat.le_of_ble_eq_true rfl) rfl ?_
    refine g_icmp_ge (tgt := 30) (pc' := 12) C dX3_matterAt_9 (by decide) rfl (fun c2 => ?_) (fun c2 => absurd (by rw [X.2.2.1]; exact h.resolve_left c1) c2)
    refine g_null (pc' := 31) C dX3_matterAt_30 rfl ?_
    exact g_aret C hR dX3_matterAt_31 (Or.inl rfl) ⟨rfl, rfl, rfl⟩
set_option maxRecDepth 20000 in
theorem m_X3_hearingAtS {l : Launch} {g : wG} {z : wZ} {I : wI} {P : wP} {O : wO} {x : Int32} {j : Nat} (X : XI z I P) (hj : x = nI j) (hj4 : j < z.2) : RT l yX3_hearingAt cX3_hearingAt 2 ((some (.object "Hearingpay$Hearing"))) { frames := 0, cells := 0, slots := 0, locals := 0 } g z [.ref (g.2.2 0 0), .int x] I P O (dp (some (.ref (g.2.2 3 j))) (I) (P)) := by
  refine RT.of (own := RX3) rfl (by decide +kernel) (Nat.le_of_ble_eq_true rfl) rfl (fun K C hl hg hR => ?_)
  subst hl
  subst hg
  have hc := X.2.2.2.1
  have hcap := X.2.1
  refine g_iload_n (pc' := 1) C dX3_hearingAt_0 rfl rfl ?_
  refine g_if_lt (tgt := 30) (pc' := 4) C dX3_hearingAt_1 (by decide) rfl (fun c1 => absurd c1 (by rw [hj]; exact nI_pos (by omega))) (fun c1 => ?_)
  refine g_iload_n (pc' := 5) C dX3_hearingAt_4 rfl rfl ?_
  refine g_aload_n (pc' := 6) C dX3_hearingAt_5 rfl rfl ?_
  refine f_X3_35 (pc' := 9) C dX3_hearingAt_6 (by first | assumption | exact rfl | exact al13 rfl | exact Nat.le_of_ble_eq_true rfl) rfl ?_
  refine g_icmp_ge (tgt := 30) (pc' := 12) C dX3_hearingAt_9 (by decide) rfl (fun c2 => absurd c2 (by rw [hj, hc]; exact nI_ge (by omega) (by omega))) (fun c2 => ?_)
  refine g_iload_n (pc' := 13) C dX3_hearingAt_12 rfl rfl ?_
  refine g_aload_n (pc' := 14) C dX3_hearingAt_13 rfl rfl ?_
  refine f_X3_27 (pc' := 17) C dX3_hearingAt_14 (by first | assumption | exact rfl | exact al13 rfl | exact Nat.le_of_ble_eq_true rfl) rfl ?_
  refine g_alen (pc' := 18) (v := 24) (t0 := 3) C dX3_hearingAt_17 (by first | assumption | exact rfl | exact al13 rfl | exact Nat.le_of_ble_eq_true rfl) rfl rfl rfl rfl ?_
  refine g_icmp_ge (tgt := 30) (pc' := 21) C dX3_hearingAt_18 (by decide) rfl (fun c3 => absurd c3 (by rw [hj]; exact nI_ge (a := j) (b := 24) (by omega) (by omega))) (fun c3 => ?_)
  refine g_aload_n (pc' := 22) C dX3_hearingAt_21 rfl rfl ?_
  refine f_X3_27 (pc' := 25) C dX3_hearingAt_22 (by first | assumption | exact rfl | exact al13 rfl | exact Nat.le_of_ble_eq_true rfl) rfl ?_
  refine g_iload_n (pc' := 26) C dX3_hearingAt_25 rfl rfl ?_
  refine g_aald (pc' := 27) (t0 := 3) C (j) hj (by omega) (X.2.2.2.2.2.1 j hj4) dX3_hearingAt_26 (by first | assumption | exact rfl | exact al13 rfl | exact Nat.le_of_ble_eq_true rfl) rfl rfl rfl rfl ?_
  refine g_goto (tgt := 31) C dX3_hearingAt_27 (by decide) ?_
  exact g_aret C hR dX3_hearingAt_31 (Or.inr ⟨_, rfl⟩) ⟨rfl, rfl, rfl⟩
set_option maxRecDepth 20000 in
theorem m_X3_hearingAtN {l : Launch} {g : wG} {z : wZ} {I : wI} {P : wP} {O : wO} {x : Int32} (X : XI z I P) (h : x < 0 ∨ nI z.2 ≤ x) : RT l yX3_hearingAt cX3_hearingAt 2 ((some (.object "Hearingpay$Hearing"))) { frames := 0, cells := 0, slots := 0, locals := 0 } g z [.ref (g.2.2 0 0), .int x] I P O (dp (some (.null)) (I) (P)) := by
  refine RT.of (own := RX3) rfl (by decide +kernel) (Nat.le_of_ble_eq_true rfl) rfl (fun K C hl hg hR => ?_)
  subst hl
  subst hg
  refine g_iload_n (pc' := 1) C dX3_hearingAt_0 rfl rfl ?_
  refine g_if_lt (tgt := 30) (pc' := 4) C dX3_hearingAt_1 (by decide) rfl (fun c1 => ?_) (fun c1 => ?_)
  ·
    refine g_null (pc' := 31) C dX3_hearingAt_30 rfl ?_
    exact g_aret C hR dX3_hearingAt_31 (Or.inl rfl) ⟨rfl, rfl, rfl⟩
  ·
    refine g_iload_n (pc' := 5) C dX3_hearingAt_4 rfl rfl ?_
    refine g_aload_n (pc' := 6) C dX3_hearingAt_5 rfl rfl ?_
    refine f_X3_35 (pc' := 9) C dX3_hearingAt_6 (by first | assumption | exact rfl | exact al13 rfl | exact Nat.le_of_ble_eq_true rfl) rfl ?_
    refine g_icmp_ge (tgt := 30) (pc' := 12) C dX3_hearingAt_9 (by decide) rfl (fun c2 => ?_) (fun c2 => absurd (by rw [X.2.2.2.1]; exact h.resolve_left c1) c2)
    refine g_null (pc' := 31) C dX3_hearingAt_30 rfl ?_
    exact g_aret C hR dX3_hearingAt_31 (Or.inl rfl) ⟨rfl, rfl, rfl⟩
set_option maxRecDepth 20000 in
theorem m_X3_isToBegin {l : Launch} {g : wG} {z : wZ} {I : wI} {P : wP} {O : wO} {h : Nat} (hh : wAl z 3 h) : RT l yX3_isToBegin cX3_isToBegin 2 ((some .boolean)) { frames := 0, cells := 0, slots := 0, locals := 0 } g z [.ref (g.2.2 0 0), .ref (g.2.2 3 h)] I P O (dp (some (.int (b2 (decide (I 3 h 4 = 0) && !decide (I 3 h 7 ≤ I 0 0 6))))) (I) (P)) := by
  refine RT.of (own := RX3) rfl (by decide +kernel) (Nat.le_of_ble_eq_true rfl) rfl (fun K C hl hg hR => ?_)
  subst hl
  subst hg
  refine g_aload_n (pc' := 1) C dX3_isToBegin_0 rfl rfl ?_
  refine f_X3_178 (pc' := 4) C dX3_isToBegin_1 (by first | assumption | exact rfl | exact al13 rfl | exact Nat.le_of_ble_eq_true rfl) rfl ?_
  refine g_if_ne (tgt := 22) (pc' := 7) C dX3_isToBegin_4 (by decide) rfl (fun c1 => ?_) (fun c1 => ?_)
  ·
    refine g_iconst (v := 0) (pc' := 23) C dX3_isToBegin_22 (by decide) rfl ?_
    exact g_zret C hR dX3_isToBegin_23 rfl ⟨by simp [b2, inn, c1], rfl, rfl⟩
  ·
    refine g_aload_n (pc' := 8) C dX3_isToBegin_7 rfl rfl ?_
    refine f_X3_189 (pc' := 11) C dX3_isToBegin_8 (by first | assumption | exact rfl | exact al13 rfl | exact Nat.le_of_ble_eq_true rfl) rfl ?_
    refine g_aload_n (pc' := 12) C dX3_isToBegin_11 rfl rfl ?_
    refine f_X3_38 (pc' := 15) C dX3_isToBegin_12 (by first | assumption | exact rfl | exact al13 rfl | exact Nat.le_of_ble_eq_true rfl) rfl ?_
    refine g_icmp_le (tgt := 22) (pc' := 18) C dX3_isToBegin_15 (by decide) rfl (fun c2 => ?_) (fun c2 => ?_)
    ·
      refine g_iconst (v := 0) (pc' := 23) C dX3_isToBegin_22 (by decide) rfl ?_
      exact g_zret C hR dX3_isToBegin_23 rfl ⟨by simp [b2, inn, c1, c2], rfl, rfl⟩
    ·
      refine g_iconst (v := 1) (pc' := 19) C dX3_isToBegin_18 (by decide) rfl ?_
      refine g_goto (tgt := 23) C dX3_isToBegin_19 (by decide) ?_
      exact g_zret C hR dX3_isToBegin_23 rfl ⟨by simp [b2, inn, c1, c2], rfl, rfl⟩
set_option maxRecDepth 20000 in
theorem m_X3_isAsNeeded {l : Launch} {g : wG} {z : wZ} {I : wI} {P : wP} {O : wO} {m : Nat} {x : Int32} (X : XI z I P) (hm2 : wAl z 2 m) : RT l yX3_isAsNeeded cX3_isAsNeeded 4 ((some .boolean)) { frames := 1, cells := 0, slots := 0, locals := 21 } g z [.ref (g.2.2 0 0), .ref (g.2.2 2 m), .int x] I P O (dp (some (.int (b2 (asN I m x)))) (I) (P)) := by
  refine RT.of (own := RX3) rfl (by decide +kernel) (Nat.le_of_ble_eq_true rfl) rfl (fun K C hl hg hR => ?_)
  subst hl
  subst hg
  refine g_aload_n (pc' := 1) C dX3_isAsNeeded_0 rfl rfl ?_
  refine g_iload_n (pc' := 2) C dX3_isAsNeeded_1 rfl rfl ?_
  rcases in_of x 4 (by decide) with ⟨j, hj4, hj⟩ | hx
  · have hn : ¬ (x < 0 ∨ 4 ≤ x) := by rw [hj]; exact fun e => e.elim (nI_pos (by omega)) (nI_ge (a := j) (b := 4) hj4 (by decide))
    have hcl : x.toNatClampNeg = j := by rw [hj]; exact nI_clamp (by omega)
    have hi : wAl z 1 j := hj4
    refine k_X3_42 (pc' := 5) C (m_X3_interpreterAtS hj hj4 (X.2.2.2.2.2.2.1 j hj4)) dX3_isAsNeeded_2 (by first | assumption | exact rfl | exact al13 rfl | exact Nat.le_of_ble_eq_true rfl) ⟨⟨Nat.le_of_ble_eq_true rfl, Nat.le_of_ble_eq_true rfl⟩, rfl, rfl⟩ (Nat.le_of_ble_eq_true rfl) ⟨Nat.zero_le _, Nat.zero_le _⟩ rfl ?_
    refine g_astore_n (pc' := 6) C dX3_isAsNeeded_5 rfl rfl ?_
    refine g_aload_n (pc' := 7) C dX3_isAsNeeded_6 rfl rfl ?_
    refine f_X3_233 (pc' := 10) C dX3_isAsNeeded_7 (by first | assumption | exact rfl | exact al13 rfl | exact Nat.le_of_ble_eq_true rfl) rfl ?_
    refine g_iconst (v := (-1)) (pc' := 11) C dX3_isAsNeeded_10 (by decide) rfl ?_
    refine g_icmp_eq (tgt := 18) (pc' := 14) C dX3_isAsNeeded_11 (by decide) rfl (fun c1 => ?_) (fun c1 => ?_)
    ·
      refine g_aload_n (pc' := 19) C dX3_isAsNeeded_18 rfl rfl ?_
      refine f_X3_233 (pc' := 22) C dX3_isAsNeeded_19 (by first | assumption | exact rfl | exact al13 rfl | exact Nat.le_of_ble_eq_true rfl) rfl ?_
      refine g_iconst (v := (-1)) (pc' := 23) C dX3_isAsNeeded_22 (by decide) rfl ?_
      refine g_icmp_ne (tgt := 34) (pc' := 26) C dX3_isAsNeeded_23 (by decide) rfl (fun c2 => ?_) (fun c2 => ?_)
      ·
        refine g_iconst (v := 0) (pc' := 35) C dX3_isAsNeeded_34 (by decide) rfl ?_
        exact g_zret C hR dX3_isAsNeeded_35 rfl ⟨by simp [b2, asN, hn, hcl, c1, c2] <;> simp_all, rfl, rfl⟩
      ·
        refine g_aload_n (pc' := 27) C dX3_isAsNeeded_26 rfl rfl ?_
        refine g_ifnonnull (tgt := 34) C dX3_isAsNeeded_27 (by decide) ?_
        refine g_iconst (v := 0) (pc' := 35) C dX3_isAsNeeded_34 (by decide) rfl ?_
        exact g_zret C hR dX3_isAsNeeded_35 rfl ⟨by simp [b2, asN, hn, hcl, c1, c2] <;> simp_all, rfl, rfl⟩
    ·
      refine g_aload_n (pc' := 15) C dX3_isAsNeeded_14 rfl rfl ?_
      refine g_ifnonnull (tgt := 36) C dX3_isAsNeeded_15 (by decide) ?_
      refine g_aload_n (pc' := 37) C dX3_isAsNeeded_36 rfl rfl ?_
      refine g_aload_n (pc' := 38) C dX3_isAsNeeded_37 rfl rfl ?_
      refine f_X3_233 (pc' := 41) C dX3_isAsNeeded_38 (by first | assumption | exact rfl | exact al13 rfl | exact Nat.le_of_ble_eq_true rfl) rfl ?_
      refine k_X3_257 (pc' := 44) C (m_X1_knows hi) dX3_isAsNeeded_41 (by first | assumption | exact rfl | exact al13 rfl | exact Nat.le_of_ble_eq_true rfl) ⟨⟨Nat.le_of_ble_eq_true rfl, Nat.le_of_ble_eq_true rfl⟩, rfl, rfl⟩ (Nat.le_of_ble_eq_true rfl) ⟨Nat.zero_le _, Nat.zero_le _⟩ rfl ?_
      exact g_zret C hR dX3_isAsNeeded_44 (b2_n _) ⟨by simp [asN, hn, hcl, c1], rfl, rfl⟩
  · have hx : x < 0 ∨ 4 ≤ x := hx
    refine k_X3_42 (pc' := 5) C (m_X3_interpreterAtN hx) dX3_isAsNeeded_2 (by first | assumption | exact rfl | exact al13 rfl | exact Nat.le_of_ble_eq_true rfl) ⟨⟨Nat.le_of_ble_eq_true rfl, Nat.le_of_ble_eq_true rfl⟩, rfl, rfl⟩ (Nat.le_of_ble_eq_true rfl) ⟨Nat.zero_le _, Nat.zero_le _⟩ rfl ?_
    refine g_astore_nN (pc' := 6) C dX3_isAsNeeded_5 rfl rfl ?_
    refine g_aload_n (pc' := 7) C dX3_isAsNeeded_6 rfl rfl ?_
    refine f_X3_233 (pc' := 10) C dX3_isAsNeeded_7 (by first | assumption | exact rfl | exact al13 rfl | exact Nat.le_of_ble_eq_true rfl) rfl ?_
    refine g_iconst (v := (-1)) (pc' := 11) C dX3_isAsNeeded_10 (by decide) rfl ?_
    refine g_icmp_eq (tgt := 18) (pc' := 14) C dX3_isAsNeeded_11 (by decide) rfl (fun c3 => ?_) (fun c3 => ?_)
    ·
      refine g_aload_n (pc' := 19) C dX3_isAsNeeded_18 rfl rfl ?_
      refine f_X3_233 (pc' := 22) C dX3_isAsNeeded_19 (by first | assumption | exact rfl | exact al13 rfl | exact Nat.le_of_ble_eq_true rfl) rfl ?_
      refine g_iconst (v := (-1)) (pc' := 23) C dX3_isAsNeeded_22 (by decide) rfl ?_
      refine g_icmp_ne (tgt := 34) (pc' := 26) C dX3_isAsNeeded_23 (by decide) rfl (fun c4 => ?_) (fun c4 => ?_)
      ·
        refine g_iconst (v := 0) (pc' := 35) C dX3_isAsNeeded_34 (by decide) rfl ?_
        exact g_zret C hR dX3_isAsNeeded_35 rfl ⟨by simp [b2, asN, hx, c3, c4] <;> simp_all, rfl, rfl⟩
      ·
        refine g_aload_nN (pc' := 27) C dX3_isAsNeeded_26 rfl rfl ?_
        refine g_ifnonnullN (pc' := 30) C dX3_isAsNeeded_27 rfl ?_
        refine g_iconst (v := 1) (pc' := 31) C dX3_isAsNeeded_30 (by decide) rfl ?_
        refine g_goto (tgt := 35) C dX3_isAsNeeded_31 (by decide) ?_
        exact g_zret C hR dX3_isAsNeeded_35 rfl ⟨by simp [b2, asN, hx, c3, c4] <;> simp_all, rfl, rfl⟩
    ·
      refine g_aload_nN (pc' := 15) C dX3_isAsNeeded_14 rfl rfl ?_
      refine g_ifnonnullN (pc' := 18) C dX3_isAsNeeded_15 rfl ?_
      refine g_aload_n (pc' := 19) C dX3_isAsNeeded_18 rfl rfl ?_
      refine f_X3_233 (pc' := 22) C dX3_isAsNeeded_19 (by first | assumption | exact rfl | exact al13 rfl | exact Nat.le_of_ble_eq_true rfl) rfl ?_
      refine g_iconst (v := (-1)) (pc' := 23) C dX3_isAsNeeded_22 (by decide) rfl ?_
      refine g_icmp_ne (tgt := 34) (pc' := 26) C dX3_isAsNeeded_23 (by decide) rfl (fun c5 => ?_) (fun c5 => ?_)
      ·
        refine g_iconst (v := 0) (pc' := 35) C dX3_isAsNeeded_34 (by decide) rfl ?_
        exact g_zret C hR dX3_isAsNeeded_35 rfl ⟨by simp [b2, asN, hx, c3, c5] <;> simp_all, rfl, rfl⟩
      ·
        refine g_aload_nN (pc' := 27) C dX3_isAsNeeded_26 rfl rfl ?_
        refine g_ifnonnullN (pc' := 30) C dX3_isAsNeeded_27 rfl ?_
        refine g_iconst (v := 1) (pc' := 31) C dX3_isAsNeeded_30 (by decide) rfl ?_
        refine g_goto (tgt := 35) C dX3_isAsNeeded_31 (by decide) ?_
        exact g_zret C hR dX3_isAsNeeded_35 rfl ⟨by simp [b2, asN, hx, c3, c5] <;> simp_all, rfl, rfl⟩
set_option maxRecDepth 20000 in
theorem l_X3_clashReasonN {K : wK} {z : wZ} {I : wI} {P : wP} {O : wO} {post : Option Value → wI → wP → Prop} {m : Nat} {r itp fr oh : Int32} (C : Cx K cX3_clashReason RX3 11 (some .int) { frames := 3, cells := 0, slots := 0, locals := 66 } z) (hR : Rx K z O post) (X : XI z I P) (hm2 : wAl z 2 m) : ∀ (n h : Nat) (x7 x8 : Int32), x8 = nI h → h + n = z.2 → post (some (.int (crL I P none m r itp fr oh n h x7))) I P → G K z I P O 0 0 6 [(0, .ref ((Kg K).2.2 0 0)), (1, .null), (2, .ref ((Kg K).2.2 2 m)), (3, .int r), (4, .int itp), (5, .int fr), (6, .int oh), (7, .int x7), (8, .int x8)] [] := by
  intro n
  induction n with
  | zero =>
    intro h x7 x8 ex8 hk hpost
    refine g_iload (pc' := 8) C dX3_clashReason_6 rfl rfl ?_
    refine g_aload_n (pc' := 9) C dX3_clashReason_8 rfl rfl ?_
    refine f_X3_35 (pc' := 12) C dX3_clashReason_9 (by first | assumption | exact rfl | exact al13 rfl | exact Nat.le_of_ble_eq_true rfl) rfl ?_
    refine g_icmp_ge (tgt := 84) (pc' := 15) C dX3_clashReason_12 (by decide) rfl (fun _ => ?_) (fun q => absurd (by rw [ex8, X.2.2.2.1, show h = z.2 by omega]; exact Int32.le_refl _) q)
    refine g_iload (pc' := 86) C dX3_clashReason_84 rfl rfl ?_
    exact g_iret C hR dX3_clashReason_86 hpost
  | succ n ih =>
    intro h x7 x8 ex8 hk hpost
    have hhz : h < z.2 := by omega
    have hh : wAl z 3 h := hhz
    refine g_iload (pc' := 8) C dX3_clashReason_6 rfl rfl ?_
    refine g_aload_n (pc' := 9) C dX3_clashReason_8 rfl rfl ?_
    refine f_X3_35 (pc' := 12) C dX3_clashReason_9 (by first | assumption | exact rfl | exact al13 rfl | exact Nat.le_of_ble_eq_true rfl) rfl ?_
    refine g_icmp_ge (tgt := 84) (pc' := 15) C dX3_clashReason_12 (by decide) rfl (fun c1 => absurd c1 (by rw [ex8, X.2.2.2.1]; exact nI_ge hhz (by have := X.2.1; omega))) (fun c1 => ?_)
    refine g_aload_n (pc' := 16) C dX3_clashReason_15 rfl rfl ?_
    refine g_iload (pc' := 18) C dX3_clashReason_16 rfl rfl ?_
    refine k_X3_149 (pc' := 21) C (m_X3_hearingAtS X ex8 hhz) dX3_clashReason_18 (by first | assumption | exact rfl | exact al13 rfl | exact Nat.le_of_ble_eq_true rfl) ⟨⟨Nat.le_of_ble_eq_true rfl, Nat.le_of_ble_eq_true rfl⟩, rfl, rfl⟩ (Nat.le_of_ble_eq_true rfl) ⟨Nat.zero_le _, Nat.zero_le _⟩ rfl ?_
    refine g_astore (pc' := 23) C dX3_clashReason_21 rfl rfl ?_
    refine g_aload (pc' := 25) C dX3_clashReason_23 rfl rfl ?_
    refine g_ifnull (pc' := 28) C dX3_clashReason_25 rfl ?_
    refine g_aload (pc' := 30) C dX3_clashReason_28 rfl rfl ?_
    refine g_aload_nN (pc' := 31) C dX3_clashReason_30 rfl rfl ?_
    refine g_acmp_eq (x := some _) (y := none) (tgt := 78) (pc' := 34) C dX3_clashReason_31 (by decide) rfl (fun q => by cases q) (fun _ => ?_)
    refine g_aload (pc' := 36) C dX3_clashReason_34 rfl rfl ?_
    refine g_iload (pc' := 38) C dX3_clashReason_36 rfl rfl ?_
    refine g_iload (pc' := 40) C dX3_clashReason_38 rfl rfl ?_
    refine k_X3_218 (pc' := 43) C (m_X0_takesPartOf hh) dX3_clashReason_40 (by first | assumption | exact rfl | exact al13 rfl | exact Nat.le_of_ble_eq_true rfl) ⟨⟨Nat.le_of_ble_eq_true rfl, Nat.le_of_ble_eq_true rfl⟩, rfl, rfl⟩ (Nat.le_of_ble_eq_true rfl) ⟨Nat.zero_le _, Nat.zero_le _⟩ rfl ?_
    refine g_if_eq (tgt := 78) (pc' := 46) C dX3_clashReason_43 (by decide) rfl (fun c2 => ?_) (fun c2 => ?_)
    ·
      have c2 := b2_0.mp c2
      refine g_iinc (pc' := 81) C dX3_clashReason_78 rfl (ii1 _) rfl rfl ?_
      refine g_goto (tgt := 6) C dX3_clashReason_81 (by decide) ?_
      refine G_pick [0, 1, 2, 3, 4, 5, 6, 7, 8] rfl (ih (h + 1) _ _ (by rw [ex8]; exact (nI_1 h)) (by omega) ?_)
      simpa [crL, crS, c1, c2] using hpost
    ·
      have c2 := b2_1.mp c2
      refine g_aload (pc' := 48) C dX3_clashReason_46 rfl rfl ?_
      refine g_aload_n (pc' := 49) C dX3_clashReason_48 rfl rfl ?_
      refine g_iload_n (pc' := 50) C dX3_clashReason_49 rfl rfl ?_
      refine g_iload (pc' := 52) C dX3_clashReason_50 rfl rfl ?_
      refine k_X3_260 (pc' := 55) C (m_X0_reasonAgainst hh (X.hm hh) (X.hm2 hh) hm2) dX3_clashReason_52 (by first | assumption | exact rfl | exact al13 rfl | exact Nat.le_of_ble_eq_true rfl) ⟨⟨Nat.le_of_ble_eq_true rfl, Nat.le_of_ble_eq_true rfl⟩, rfl, rfl⟩ (Nat.le_of_ble_eq_true rfl) ⟨Nat.zero_le _, Nat.zero_le _⟩ rfl ?_
      refine g_istore (pc' := 57) C dX3_clashReason_55 rfl rfl ?_
      refine g_iload (pc' := 59) C dX3_clashReason_57 rfl rfl ?_
      refine g_if_eq (tgt := 78) (pc' := 62) C dX3_clashReason_59 (by decide) rfl (fun c3 => ?_) (fun c3 => ?_)
      ·
        refine g_iinc (pc' := 81) C dX3_clashReason_78 rfl (ii1 _) rfl rfl ?_
        refine g_goto (tgt := 6) C dX3_clashReason_81 (by decide) ?_
        refine G_pick [0, 1, 2, 3, 4, 5, 6, 7, 8] rfl (ih (h + 1) _ _ (by rw [ex8]; exact (nI_1 h)) (by omega) ?_)
        simpa [crL, crS, c1, c2, c3] using hpost
      ·
        refine g_iload (pc' := 64) C dX3_clashReason_62 rfl rfl ?_
        refine g_if_eq (tgt := 74) (pc' := 67) C dX3_clashReason_64 (by decide) rfl (fun c4 => ?_) (fun c4 => ?_)
        ·
          refine g_iload (pc' := 76) C dX3_clashReason_74 rfl rfl ?_
          refine g_istore (pc' := 78) C dX3_clashReason_76 rfl rfl ?_
          refine g_iinc (pc' := 81) C dX3_clashReason_78 rfl (ii1 _) rfl rfl ?_
          refine g_goto (tgt := 6) C dX3_clashReason_81 (by decide) ?_
          refine G_pick [0, 1, 2, 3, 4, 5, 6, 7, 8] rfl (ih (h + 1) _ _ (by rw [ex8]; exact (nI_1 h)) (by omega) ?_)
          simpa [crL, crS, c1, c2, c3, c4] using hpost
        ·
          refine g_iload (pc' := 69) C dX3_clashReason_67 rfl rfl ?_
          refine g_iload (pc' := 71) C dX3_clashReason_69 rfl rfl ?_
          refine g_icmp_ge (tgt := 78) (pc' := 74) C dX3_clashReason_71 (by decide) rfl (fun c5 => ?_) (fun c5 => ?_)
          ·
            refine g_iinc (pc' := 81) C dX3_clashReason_78 rfl (ii1 _) rfl rfl ?_
            refine g_goto (tgt := 6) C dX3_clashReason_81 (by decide) ?_
            refine G_pick [0, 1, 2, 3, 4, 5, 6, 7, 8] rfl (ih (h + 1) _ _ (by rw [ex8]; exact (nI_1 h)) (by omega) ?_)
            simpa [crL, crS, c1, c2, c3, c4, c5] using hpost
          ·
            refine g_iload (pc' := 76) C dX3_clashReason_74 rfl rfl ?_
            refine g_istore (pc' := 78) C dX3_clashReason_76 rfl rfl ?_
            refine g_iinc (pc' := 81) C dX3_clashReason_78 rfl (ii1 _) rfl rfl ?_
            refine g_goto (tgt := 6) C dX3_clashReason_81 (by decide) ?_
            refine G_pick [0, 1, 2, 3, 4, 5, 6, 7, 8] rfl (ih (h + 1) _ _ (by rw [ex8]; exact (nI_1 h)) (by omega) ?_)
            simpa [crL, crS, c1, c2, c3, c4, c5] using hpost
set_option maxRecDepth 20000 in
theorem m_X3_clashReasonN {l : Launch} {g : wG} {z : wZ} {I : wI} {P : wP} {O : wO} {m : Nat} {r itp fr oh : Int32} (X : XI z I P) (hm2 : wAl z 2 m) : RT l yX3_clashReason cX3_clashReason 11 ((some .int)) { frames := 3, cells := 0, slots := 0, locals := 66 } g z [.ref (g.2.2 0 0), .null, .ref (g.2.2 2 m), .int r, .int itp, .int fr, .int oh] I P O (dp (some (.int (crL I P none m r itp fr oh z.2 0 0))) (I) (P)) := by
  refine RT.of (own := RX3) rfl (by decide +kernel) (Nat.le_of_ble_eq_true rfl) rfl (fun K C hl hg hR => ?_)
  subst hl
  subst hg
  refine g_iconst (v := 0) (pc' := 1) C dX3_clashReason_0 (by decide) rfl ?_
  refine g_istore (pc' := 3) C dX3_clashReason_1 rfl rfl ?_
  refine g_iconst (v := 0) (pc' := 4) C dX3_clashReason_3 (by decide) rfl ?_
  refine g_istore (pc' := 6) C dX3_clashReason_4 rfl rfl ?_
  exact l_X3_clashReasonN C hR X hm2 z.2 0 0 0 nI_0.symm (by omega) ⟨rfl, rfl, rfl⟩
set_option maxRecDepth 20000 in
theorem l_X3_clashReasonR {K : wK} {z : wZ} {I : wI} {P : wP} {O : wO} {post : Option Value → wI → wP → Prop} {m : Nat} {r itp fr oh : Int32} (C : Cx K cX3_clashReason RX3 11 (some .int) { frames := 3, cells := 0, slots := 0, locals := 66 } z) (hR : Rx K z O post) (X : XI z I P) (hm2 : wAl z 2 m) {i0 : Nat} (hi0 : wAl z 3 i0) : ∀ (n h : Nat) (x7 x8 : Int32), x8 = nI h → h + n = z.2 → post (some (.int (crL I P (some i0) m r itp fr oh n h x7))) I P → G K z I P O 0 0 6 [(0, .ref ((Kg K).2.2 0 0)), (1, .ref ((Kg K).2.2 3 i0)), (2, .ref ((Kg K).2.2 2 m)), (3, .int r), (4, .int itp), (5, .int fr), (6, .int oh), (7, .int x7), (8, .int x8)] [] := by
  intro n
  induction n with
  | zero =>
    intro h x7 x8 ex8 hk hpost
    refine g_iload (pc' := 8) C dX3_clashReason_6 rfl rfl ?_
    refine g_aload_n (pc' := 9) C dX3_clashReason_8 rfl rfl ?_
    refine f_X3_35 (pc' := 12) C dX3_clashReason_9 (by first | assumption | exact rfl | exact al13 rfl | exact Nat.le_of_ble_eq_true rfl) rfl ?_
    refine g_icmp_ge (tgt := 84) (pc' := 15) C dX3_clashReason_12 (by decide) rfl (fun _ => ?_) (fun q => absurd (by rw [ex8, X.2.2.2.1, show h = z.2 by omega]; exact Int32.le_refl _) q)
    refine g_iload (pc' := 86) C dX3_clashReason_84 rfl rfl ?_
    exact g_iret C hR dX3_clashReason_86 hpost
  | succ n ih =>
    intro h x7 x8 ex8 hk hpost
    have hhz : h < z.2 := by omega
    have hh : wAl z 3 h := hhz
    refine g_iload (pc' := 8) C dX3_clashReason_6 rfl rfl ?_
    refine g_aload_n (pc' := 9) C dX3_clashReason_8 rfl rfl ?_
    refine f_X3_35 (pc' := 12) C dX3_clashReason_9 (by first | assumption | exact rfl | exact al13 rfl | exact Nat.le_of_ble_eq_true rfl) rfl ?_
    refine g_icmp_ge (tgt := 84) (pc' := 15) C dX3_clashReason_12 (by decide) rfl (fun c1 => absurd c1 (by rw [ex8, X.2.2.2.1]; exact nI_ge hhz (by have := X.2.1; omega))) (fun c1 => ?_)
    refine g_aload_n (pc' := 16) C dX3_clashReason_15 rfl rfl ?_
    refine g_iload (pc' := 18) C dX3_clashReason_16 rfl rfl ?_
    refine k_X3_149 (pc' := 21) C (m_X3_hearingAtS X ex8 hhz) dX3_clashReason_18 (by first | assumption | exact rfl | exact al13 rfl | exact Nat.le_of_ble_eq_true rfl) ⟨⟨Nat.le_of_ble_eq_true rfl, Nat.le_of_ble_eq_true rfl⟩, rfl, rfl⟩ (Nat.le_of_ble_eq_true rfl) ⟨Nat.zero_le _, Nat.zero_le _⟩ rfl ?_
    refine g_astore (pc' := 23) C dX3_clashReason_21 rfl rfl ?_
    refine g_aload (pc' := 25) C dX3_clashReason_23 rfl rfl ?_
    refine g_ifnull (pc' := 28) C dX3_clashReason_25 rfl ?_
    refine g_aload (pc' := 30) C dX3_clashReason_28 rfl rfl ?_
    refine g_aload_n (pc' := 31) C dX3_clashReason_30 rfl rfl ?_
    refine g_acmp_eq2 (tgt := 78) (pc' := 34) C (by first | assumption | exact rfl | exact al13 rfl | exact Nat.le_of_ble_eq_true rfl) (by first | assumption | exact rfl | exact al13 rfl | exact Nat.le_of_ble_eq_true rfl) dX3_clashReason_31 (by decide) rfl (fun c2 => ?_) (fun c2 => ?_)
    ·
      refine g_iinc (pc' := 81) C dX3_clashReason_78 rfl (ii1 _) rfl rfl ?_
      refine g_goto (tgt := 6) C dX3_clashReason_81 (by decide) ?_
      refine G_pick [0, 1, 2, 3, 4, 5, 6, 7, 8] rfl (ih (h + 1) _ _ (by rw [ex8]; exact (nI_1 h)) (by omega) ?_)
      first | simpa [crL, crS, c1, c2, Ne.symm c2] using hpost | simpa [crL, crS, c1, c2] using hpost
    ·
      refine g_aload (pc' := 36) C dX3_clashReason_34 rfl rfl ?_
      refine g_iload (pc' := 38) C dX3_clashReason_36 rfl rfl ?_
      refine g_iload (pc' := 40) C dX3_clashReason_38 rfl rfl ?_
      refine k_X3_218 (pc' := 43) C (m_X0_takesPartOf hh) dX3_clashReason_40 (by first | assumption | exact rfl | exact al13 rfl | exact Nat.le_of_ble_eq_true rfl) ⟨⟨Nat.le_of_ble_eq_true rfl, Nat.le_of_ble_eq_true rfl⟩, rfl, rfl⟩ (Nat.le_of_ble_eq_true rfl) ⟨Nat.zero_le _, Nat.zero_le _⟩ rfl ?_
      refine g_if_eq (tgt := 78) (pc' := 46) C dX3_clashReason_43 (by decide) rfl (fun c3 => ?_) (fun c3 => ?_)
      ·
        have c3 := b2_0.mp c3
        refine g_iinc (pc' := 81) C dX3_clashReason_78 rfl (ii1 _) rfl rfl ?_
        refine g_goto (tgt := 6) C dX3_clashReason_81 (by decide) ?_
        refine G_pick [0, 1, 2, 3, 4, 5, 6, 7, 8] rfl (ih (h + 1) _ _ (by rw [ex8]; exact (nI_1 h)) (by omega) ?_)
        first | simpa [crL, crS, c1, c2, c3, Ne.symm c2] using hpost | simpa [crL, crS, c1, c2, c3] using hpost
      ·
        have c3 := b2_1.mp c3
        refine g_aload (pc' := 48) C dX3_clashReason_46 rfl rfl ?_
        refine g_aload_n (pc' := 49) C dX3_clashReason_48 rfl rfl ?_
        refine g_iload_n (pc' := 50) C dX3_clashReason_49 rfl rfl ?_
        refine g_iload (pc' := 52) C dX3_clashReason_50 rfl rfl ?_
        refine k_X3_260 (pc' := 55) C (m_X0_reasonAgainst hh (X.hm hh) (X.hm2 hh) hm2) dX3_clashReason_52 (by first | assumption | exact rfl | exact al13 rfl | exact Nat.le_of_ble_eq_true rfl) ⟨⟨Nat.le_of_ble_eq_true rfl, Nat.le_of_ble_eq_true rfl⟩, rfl, rfl⟩ (Nat.le_of_ble_eq_true rfl) ⟨Nat.zero_le _, Nat.zero_le _⟩ rfl ?_
        refine g_istore (pc' := 57) C dX3_clashReason_55 rfl rfl ?_
        refine g_iload (pc' := 59) C dX3_clashReason_57 rfl rfl ?_
        refine g_if_eq (tgt := 78) (pc' := 62) C dX3_clashReason_59 (by decide) rfl (fun c4 => ?_) (fun c4 => ?_)
        ·
          refine g_iinc (pc' := 81) C dX3_clashReason_78 rfl (ii1 _) rfl rfl ?_
          refine g_goto (tgt := 6) C dX3_clashReason_81 (by decide) ?_
          refine G_pick [0, 1, 2, 3, 4, 5, 6, 7, 8] rfl (ih (h + 1) _ _ (by rw [ex8]; exact (nI_1 h)) (by omega) ?_)
          first | simpa [crL, crS, c1, c2, c3, c4, Ne.symm c2] using hpost | simpa [crL, crS, c1, c2, c3, c4] using hpost
        ·
          refine g_iload (pc' := 64) C dX3_clashReason_62 rfl rfl ?_
          refine g_if_eq (tgt := 74) (pc' := 67) C dX3_clashReason_64 (by decide) rfl (fun c5 => ?_) (fun c5 => ?_)
          ·
            refine g_iload (pc' := 76) C dX3_clashReason_74 rfl rfl ?_
            refine g_istore (pc' := 78) C dX3_clashReason_76 rfl rfl ?_
            refine g_iinc (pc' := 81) C dX3_clashReason_78 rfl (ii1 _) rfl rfl ?_
            refine g_goto (tgt := 6) C dX3_clashReason_81 (by decide) ?_
            refine G_pick [0, 1, 2, 3, 4, 5, 6, 7, 8] rfl (ih (h + 1) _ _ (by rw [ex8]; exact (nI_1 h)) (by omega) ?_)
            first | simpa [crL, crS, c1, c2, c3, c4, c5, Ne.symm c2] using hpost | simpa [crL, crS, c1, c2, c3, c4, c5] using hpost
          ·
            refine g_iload (pc' := 69) C dX3_clashReason_67 rfl rfl ?_
            refine g_iload (pc' := 71) C dX3_clashReason_69 rfl rfl ?_
            refine g_icmp_ge (tgt := 78) (pc' := 74) C dX3_clashReason_71 (by decide) rfl (fun c6 => ?_) (fun c6 => ?_)
            ·
              refine g_iinc (pc' := 81) C dX3_clashReason_78 rfl (ii1 _) rfl rfl ?_
              refine g_goto (tgt := 6) C dX3_clashReason_81 (by decide) ?_
              refine G_pick [0, 1, 2, 3, 4, 5, 6, 7, 8] rfl (ih (h + 1) _ _ (by rw [ex8]; exact (nI_1 h)) (by omega) ?_)
              first | simpa [crL, crS, c1, c2, c3, c4, c5, c6, Ne.symm c2] using hpost | simpa [crL, crS, c1, c2, c3, c4, c5, c6] using hpost
            ·
              refine g_iload (pc' := 76) C dX3_clashReason_74 rfl rfl ?_
              refine g_istore (pc' := 78) C dX3_clashReason_76 rfl rfl ?_
              refine g_iinc (pc' := 81) C dX3_clashReason_78 rfl (ii1 _) rfl rfl ?_
              refine g_goto (tgt := 6) C dX3_clashReason_81 (by decide) ?_
              refine G_pick [0, 1, 2, 3, 4, 5, 6, 7, 8] rfl (ih (h + 1) _ _ (by rw [ex8]; exact (nI_1 h)) (by omega) ?_)
              first | simpa [crL, crS, c1, c2, c3, c4, c5, c6, Ne.symm c2] using hpost | simpa [crL, crS, c1, c2, c3, c4, c5, c6] using hpost
set_option maxRecDepth 20000 in
theorem m_X3_clashReasonR {l : Launch} {g : wG} {z : wZ} {I : wI} {P : wP} {O : wO} {m : Nat} {r itp fr oh : Int32} (X : XI z I P) (hm2 : wAl z 2 m) {i0 : Nat} (hi0 : wAl z 3 i0) : RT l yX3_clashReason cX3_clashReason 11 ((some .int)) { frames := 3, cells := 0, slots := 0, locals := 66 } g z [.ref (g.2.2 0 0), .ref (g.2.2 3 i0), .ref (g.2.2 2 m), .int r, .int itp, .int fr, .int oh] I P O (dp (some (.int (crL I P (some i0) m r itp fr oh z.2 0 0))) (I) (P)) := by
  refine RT.of (own := RX3) rfl (by decide +kernel) (Nat.le_of_ble_eq_true rfl) rfl (fun K C hl hg hR => ?_)
  subst hl
  subst hg
  refine g_iconst (v := 0) (pc' := 1) C dX3_clashReason_0 (by decide) rfl ?_
  refine g_istore (pc' := 3) C dX3_clashReason_1 rfl rfl ?_
  refine g_iconst (v := 0) (pc' := 4) C dX3_clashReason_3 (by decide) rfl ?_
  refine g_istore (pc' := 6) C dX3_clashReason_4 rfl rfl ?_
  exact l_X3_clashReasonR C hR X hm2 hi0 z.2 0 0 0 nI_0.symm (by omega) ⟨rfl, rfl, rfl⟩
set_option maxRecDepth 20000 in
theorem m_X3_feeFor {l : Launch} {g : wG} {z : wZ} {I : wI} {P : wP} {O : wO} {m : Nat} {x : Int32} (X : XI z I P) (hm2 : wAl z 2 m) : RT l yX3_feeFor cX3_feeFor 4 ((some .int)) { frames := 0, cells := 0, slots := 0, locals := 0 } g z [.ref (g.2.2 0 0), .ref (g.2.2 2 m), .int x] I P O (dp (some (.int (ff I m x))) (I) (P)) := by
  refine RT.of (own := RX3) rfl (by decide +kernel) (Nat.le_of_ble_eq_true rfl) rfl (fun K C hl hg hR => ?_)
  subst hl
  subst hg
  have hf := X.fs hm2
  have hf6 := X.fs6 hm2
  refine g_aload_n (pc' := 1) C dX3_feeFor_0 rfl rfl ?_
  refine f_X3_227 (pc' := 4) C dX3_feeFor_1 (by first | assumption | exact rfl | exact al13 rfl | exact Nat.le_of_ble_eq_true rfl) rfl ?_
  refine g_if_lt (tgt := 35) (pc' := 7) C dX3_feeFor_4 (by decide) rfl (fun c1 => absurd c1 (by rw [hf]; exact nI_pos (by omega))) (fun c1 => ?_)
  refine g_aload_n (pc' := 8) C dX3_feeFor_7 rfl rfl ?_
  refine f_X3_227 (pc' := 11) C dX3_feeFor_8 (by first | assumption | exact rfl | exact al13 rfl | exact Nat.le_of_ble_eq_true rfl) rfl ?_
  refine g_aload_n (pc' := 12) C dX3_feeFor_11 rfl rfl ?_
  refine f_X3_15 (pc' := 15) C dX3_feeFor_12 (by first | assumption | exact rfl | exact al13 rfl | exact Nat.le_of_ble_eq_true rfl) rfl ?_
  refine g_alen (pc' := 16) (v := 6) (t0 := 1) C dX3_feeFor_15 (by first | assumption | exact rfl | exact al13 rfl | exact Nat.le_of_ble_eq_true rfl) rfl rfl rfl rfl ?_
  refine g_icmp_ge (tgt := 35) (pc' := 19) C dX3_feeFor_16 (by decide) rfl (fun c2 => absurd c2 (by rw [hf]; exact nI_ge (a := fsN I m) (b := 6) hf6 (by decide))) (fun c2 => ?_)
  refine g_aload_n (pc' := 20) C dX3_feeFor_19 rfl rfl ?_
  refine f_X3_15 (pc' := 23) C dX3_feeFor_20 (by first | assumption | exact rfl | exact al13 rfl | exact Nat.le_of_ble_eq_true rfl) rfl ?_
  refine g_aload_n (pc' := 24) C dX3_feeFor_23 rfl rfl ?_
  refine f_X3_227 (pc' := 27) C dX3_feeFor_24 (by first | assumption | exact rfl | exact al13 rfl | exact Nat.le_of_ble_eq_true rfl) rfl ?_
  refine g_zald (pc' := 28) C (fsN I m) hf hf6 dX3_feeFor_27 (by first | assumption | exact rfl | exact al13 rfl | exact Nat.le_of_ble_eq_true rfl) rfl rfl rfl ?_
  refine g_if_eq (tgt := 35) (pc' := 31) C dX3_feeFor_28 (by decide) rfl (fun c3 => ?_) (fun c3 => ?_)
  ·
    refine g_iconst (v := 0) (pc' := 36) C dX3_feeFor_35 (by decide) rfl ?_
    refine g_istore_n (pc' := 37) C dX3_feeFor_36 rfl rfl ?_
    refine g_iload_n (pc' := 38) C dX3_feeFor_37 rfl rfl ?_
    refine g_if_eq (tgt := 45) (pc' := 41) C dX3_feeFor_38 (by decide) rfl (fun c4 => ?_) (fun c4 => absurd (by first | decide | rw [thv]; decide) c4)
    refine g_iload_n (pc' := 46) C dX3_feeFor_45 rfl rfl ?_
    exact g_iret C hR dX3_feeFor_46 ⟨by simp [ff, c1, c2, c3, c4] <;> (intros; simp_all) , rfl, rfl⟩
  ·
    refine g_iconst (v := 1) (pc' := 32) C dX3_feeFor_31 (by decide) rfl ?_
    refine g_goto (tgt := 36) C dX3_feeFor_32 (by decide) ?_
    refine g_istore_n (pc' := 37) C dX3_feeFor_36 rfl rfl ?_
    refine g_iload_n (pc' := 38) C dX3_feeFor_37 rfl rfl ?_
    refine g_if_eq (tgt := 45) (pc' := 41) C dX3_feeFor_38 (by decide) rfl (fun c5 => absurd c5 (by first | decide | rw [thv]; decide)) (fun c5 => ?_)
    refine g_iconst (v := 0) (pc' := 42) C dX3_feeFor_41 (by decide) rfl ?_
    refine g_goto (tgt := 46) C dX3_feeFor_42 (by decide) ?_
    exact g_iret C hR dX3_feeFor_46 ⟨by simp [ff, c1, c2, c3, c5] <;> (intros; simp_all) , rfl, rfl⟩
set_option maxRecDepth 20000 in
theorem m_X3_hour {l : Launch} {g : wG} {z : wZ} {I : wI} {P : wP} {O : wO} : RT l yX3_hour cX3_hour 1 ((some .int)) { frames := 0, cells := 0, slots := 0, locals := 0 } g z [.ref (g.2.2 0 0)] I P O (dp (some (.int (I 0 0 6))) (I) (P)) := by
  refine RT.of (own := RX3) rfl (by decide +kernel) (Nat.le_of_ble_eq_true rfl) rfl (fun K C hl hg hR => ?_)
  subst hl
  subst hg
  refine g_aload_n (pc' := 1) C dX3_hour_0 rfl rfl ?_
  refine f_X3_38 (pc' := 4) C dX3_hour_1 (by first | assumption | exact rfl | exact al13 rfl | exact Nat.le_of_ble_eq_true rfl) rfl ?_
  exact g_iret C hR dX3_hour_4 ⟨rfl, rfl, rfl⟩
end WHelp
end
section
section WMove
theorem XI.upI {z : wZ} {I : wI} {P : wP} (X : XI z I P) {k j c : Nat} (v : Int32) (h0 : k ≠ 0 ∨ c = 6) (h3 : k ≠ 3 ∨ c ≠ 2) (h2 : k ≠ 2 ∨ c ≠ 2) : XI z (upI I k j c v) P := X.of (by rw [upI_at, if_neg (by omega)]) (by rw [upI_at, if_neg (by omega)]) (fun h => by rw [upI_at, if_neg (by omega)]) (fun m => by rw [upI_at, if_neg (by omega)]) (fun _ _ _ => rfl) (fun i p q hi hp h => X.h9 hi hp h)
theorem XI.upP9 {z : wZ} {I : wI} {P : wP} (X : XI z I P) {i p : Nat} {v : Option Nat} (hv : ∀ q, v = some q → q < z.1) : XI z I (upP P 9 i p v) := X.of rfl rfl (fun _ => rfl) (fun _ => rfl) (fun k j hk => upP_off P v (fun e => hk e.1)) (fun i2 p2 q hi hp h => by
  rw [upP_at] at h
  split at h
  · exact hv q h
  · exact X.h9 hi hp h)
theorem tkI_off {I : wI} {P : wP} {i m : Nat} {x y : Int32} {k j c : Nat} (h : ¬ (k = 2 ∧ c = 6)) : tkI I P i m x y k j c = I k j c := by
  unfold tkI
  cases py I P i x y with
  | none => rfl
  | some q =>
    by_cases e : q = m
    · simp only [if_pos e]
    · simp only [if_neg e]
      rw [upI_at, if_neg (by omega)]
theorem tkP_off {I : wI} {P : wP} {i : Nat} {x y : Int32} {k j : Nat} (h : k ≠ 9) : tkP I P i x y k j = P k j := by
  unfold tkP
  cases py I P i x y with
  | none => rfl
  | some q => exact upP_off P _ (fun e => h e.1)
theorem XI.tk {z : wZ} {I : wI} {P : wP} (X : XI z I P) {i m : Nat} {x y : Int32} : XI z (tkI I P i m x y) (tkP I P i x y) := X.of (tkI_off (by omega)) (tkI_off (by omega)) (fun _ => tkI_off (by omega)) (fun _ => tkI_off (by omega)) (fun k j hk => tkP_off hk) (fun i2 p q hi hp h => by
  unfold tkP at h
  cases hpy : py I P i x y with
  | none => rw [hpy] at h; exact X.h9 hi hp h
  | some _ =>
    rw [hpy] at h
    simp only [] at h
    rw [upP_at] at h
    split at h
    · cases h
    · exact X.h9 hi hp h)
theorem XI.kp {z : wZ} {I : wI} {P : wP} (X : XI z I P) {i m : Nat} {x y : Int32} (hm : wAl z 2 m) : XI z (kpI I i x y) (kpP P i m x) := XI.upP9 (XI.upI (XI.upI X _ (by omega) (by omega) (by omega)) _ (by omega) (by omega) (by omega)) (fun q e => by cases e; exact hm)
theorem XI.pt {z : wZ} {s : wI × wP} (X : XI z s.1 s.2) {i m h k : Nat} {fr now : Int32} : XI z (ptS i m h fr now k s).1 (ptS i m h fr now k s).2 := XI.upI X.tk _ (by omega) (by omega) (by omega)
theorem XI.lv {z : wZ} {s : wI × wP} (X : XI z s.1 s.2) {i m h k : Nat} (hm : wAl z 2 m) : XI z (lvS i m h k s).1 (lvS i m h k s).2 := X.kp hm
theorem XI.lvL {z : wZ} {i m h : Nat} (hm : wAl z 2 m) : ∀ (n k : Nat) (s : wI × wP), XI z s.1 s.2 → XI z (lvL i m h n k s).1 (lvL i m h n k s).2
  | 0, _, _, X => X
  | n + 1, k, s, X => XI.lvL hm n (k + 1) _ (X.lv hm)
def lvR (I : wI) (P : wP) (h : Nat) : wI × wP := if I 3 h 7 - I 0 0 6 < 8 then (if I 3 h 6 < 0 ∨ 4 ≤ I 3 h 6 then (I, P) else lvL (I 3 h 6).toNatClampNeg (mx P h) h (hrN I h) 0 (I, P)) else (upI I 2 (mx P h) 6 (I 2 (mx P h) 6 + chg I h), P)
theorem XI.lvR {z : wZ} {I : wI} {P : wP} {h : Nat} (X : XI z I P) (hh : wAl z 3 h) : XI z (lvR I P h).1 (lvR I P h).2 := by
  unfold Jvm.Pilot.CHearingpayLaw_law_r3548_15b1de.lvR
  split
  · split
    · exact X
    · exact XI.lvL (X.hm2 hh) _ _ _ X
  · exact XI.upI X _ (by omega) (by omega) (by omega)
def putS (I : wI) (P : wP) (h i : Nat) (r x f : Int32) : wI × wP := (putB (ptL i (mx P h) h f (I 0 0 6) (hrN I h) 0 (sA I h r x f, P)).1 (mx P h) h, (ptL i (mx P h) h f (I 0 0 6) (hrN I h) 0 (sA I h r x f, P)).2)
def putN (I : wI) (P : wP) (h : Nat) (r x f : Int32) : wI := putB (p0L h (hrN I h) 0 (sA I h r x f)) (mx P h) h
def daS (m h : Nat) (s : wI × wP × Int32) : wI × wP × Int32 := if mx s.2.1 h = m ∧ s.1 3 h 4 = 0 then (if ¬ s.1 3 h 7 ≤ s.1 0 0 6 then (upI (lvR s.1 s.2.1 h).1 3 h 4 3, (lvR s.1 s.2.1 h).2, s.2.2 + 1) else (upI s.1 3 h 4 3, s.2.1, s.2.2 + 1)) else s
def daL (m : Nat) : Nat → Nat → wI × wP × Int32 → wI × wP × Int32
  | 0, _, s => s
  | n + 1, h, s => daL m n (h + 1) (daS m h s)
def ehS (P : wP) (h : Nat) (s : wI × Int32) : wI × Int32 := if s.1 3 h 4 = 0 ∧ ¬ s.1 0 0 6 < s.1 3 h 7 + s.1 3 h 2 then (hE s.1 (mx P h) h, if hE s.1 (mx P h) h 3 h 4 = 1 then s.2 + 1 else s.2) else s
def ehL (P : wP) : Nat → Nat → wI × Int32 → wI × Int32
  | 0, _, s => s
  | n + 1, h, s => ehL P n (h + 1) (ehS P h s)
def rtL (now : Int32) : Nat → Nat → wI → wI
  | 0, _, I => I
  | n + 1, m, I => rtL now n (m + 1) (rT I m now)
def phL (I : wI) (P : wP) (m : Nat) : Nat → Nat → Int32 → Int32
  | 0, _, x => x
  | n + 1, i, x => phL I P m n (i + 1) (x + hpL I P i m (I 0 0 6) 16 0 0)
def phO (I : wI) (P : wP) (m : Nat) : Int32 := phL I P m 4 0 0
theorem rT_off {I : wI} {m : Nat} {now : Int32} {k j c : Nat} (h : ¬ (k = 2 ∧ (c = 5 ∨ c = 7))) : rT I m now k j c = I k j c := by
  unfold rT
  split
  · rw [upI_at, if_neg (by omega)]
  · split
    · rw [upI_at, if_neg (by omega)]
    · rfl
theorem hE_off {I : wI} {m h : Nat} {k j c : Nat} (h2 : ¬ (k = 2 ∧ c = 5)) (h3 : ¬ (k = 3 ∧ c = 4)) : hE I m h k j c = I k j c := by
  unfold hE
  split
  · rw [upI_at, if_neg (by omega), upI_at, if_neg (by omega)]
  · rw [upI_at, if_neg (by omega)]
theorem XI.rT {z : wZ} {I : wI} {P : wP} (X : XI z I P) {m : Nat} {now : Int32} : XI z (rT I m now) P := X.of (rT_off (by omega)) (rT_off (by omega)) (fun _ => rT_off (by omega)) (fun _ => rT_off (by omega)) (fun _ _ _ => rfl) (fun i p q hi hp h => X.h9 hi hp h)
theorem XI.hE {z : wZ} {I : wI} {P : wP} (X : XI z I P) {m h : Nat} : XI z (hE I m h) P := X.of (hE_off (by omega) (by omega)) (hE_off (by omega) (by omega)) (fun _ => hE_off (by omega) (by omega)) (fun _ => hE_off (by omega) (by omega)) (fun _ _ _ => rfl) (fun i p q hi hp h => X.h9 hi hp h)
theorem XI.eh {z : wZ} {P : wP} {s : wI × Int32} (X : XI z s.1 P) {h : Nat} : XI z (ehS P h s).1 P := by
  unfold ehS
  split
  · exact X.hE
  · exact X
theorem XI.da {z : wZ} {s : wI × wP × Int32} (X : XI z s.1 s.2.1) {m h : Nat} (hh : wAl z 3 h) : XI z (daS m h s).1 (daS m h s).2.1 := by
  unfold daS
  split
  · split
    · exact XI.upI (X.lvR hh) _ (by omega) (by omega) (by omega)
    · exact XI.upI X _ (by omega) (by omega) (by omega)
  · exact X
theorem XI.sA {z : wZ} {I : wI} {P : wP} (X : XI z I P) {h : Nat} {r x f : Int32} : XI z (sA I h r x f) P := XI.upI (XI.upI (XI.upI (XI.upI (XI.upI X _ (by omega) (by omega) (by omega)) _ (by omega) (by omega) (by omega)) _ (by omega) (by omega) (by omega)) _ (by omega) (by omega) (by omega)) _ (by omega) (by omega) (by omega)
theorem sA_off {I : wI} {h : Nat} {r x f : Int32} {k j c : Nat} (hk : k ≠ 3 ∨ c < 5) : sA I h r x f k j c = I k j c := by
  unfold sA
  rw [upI_at, if_neg (by omega), upI_at, if_neg (by omega), upI_at, if_neg (by omega), upI_at, if_neg (by omega), upI_at, if_neg (by omega)]
set_option maxRecDepth 20000 in
theorem l_X3_runTerms {K : wK} {z : wZ} {O : wO} {post : Option Value → wI → wP → Prop} {P : wP} (C : Cx K cX3_runTerms RX3 3 (none) { frames := 2, cells := 0, slots := 0, locals := 41 } z) (hR : Rx K z O post) : ∀ (n m : Nat) (x1 : Int32) (I : wI), XI z I P → x1 = nI m → m + n = z.1 → post none (rtL (I 0 0 6) n m I) P → G K z I P O 0 0 2 [(0, .ref ((Kg K).2.2 0 0)), (1, .int x1)] [] := by
  intro n
  induction n with
  | zero =>
    intro m x1 I X ex1 hk hpost
    refine g_iload_n (pc' := 3) C dX3_runTerms_2 rfl rfl ?_
    refine g_aload_n (pc' := 4) C dX3_runTerms_3 rfl rfl ?_
    refine f_X3_31 (pc' := 7) C dX3_runTerms_4 (by first | assumption | exact rfl | exact al13 rfl | exact Nat.le_of_ble_eq_true rfl) rfl ?_
    refine g_icmp_ge (tgt := 34) (pc' := 10) C dX3_runTerms_7 (by decide) rfl (fun _ => ?_) (fun q => absurd (by rw [ex1, X.2.2.1, show m = z.1 by omega]; exact Int32.le_refl _) q)
    exact g_vret C hR dX3_runTerms_34 hpost
  | succ n ih =>
    intro m x1 I X ex1 hk hpost
    have hmz : m < z.1 := by omega
    obtain ⟨y1, hy1⟩ : ∃ y, y = x1 := ⟨_, rfl⟩
    refine g_iload_n (pc' := 3) C dX3_runTerms_2 rfl rfl ?_
    refine g_aload_n (pc' := 4) C dX3_runTerms_3 rfl rfl ?_
    refine f_X3_31 (pc' := 7) C dX3_runTerms_4 (by first | assumption | exact rfl | exact al13 rfl | exact Nat.le_of_ble_eq_true rfl) rfl ?_
    refine g_icmp_ge (tgt := 34) (pc' := 10) C dX3_runTerms_7 (by decide) rfl (fun c1 => absurd c1 (by rw [ex1, X.2.2.1]; exact nI_ge hmz (by have := X.1; omega))) (fun c1 => ?_)
    refine g_aload_n (pc' := 11) C dX3_runTerms_10 rfl rfl ?_
    refine g_iload_n (pc' := 12) C dX3_runTerms_11 rfl rfl ?_
    refine k_X3_95 (pc' := 15) C (m_X3_matterAtS X ex1 hmz) dX3_runTerms_12 (by first | assumption | exact rfl | exact al13 rfl | exact Nat.le_of_ble_eq_true rfl) ⟨⟨Nat.le_of_ble_eq_true rfl, Nat.le_of_ble_eq_true rfl⟩, rfl, rfl⟩ (Nat.le_of_ble_eq_true rfl) ⟨Nat.zero_le _, Nat.zero_le _⟩ rfl ?_
    refine g_astore_n (pc' := 16) C dX3_runTerms_15 rfl rfl ?_
    refine g_aload_n (pc' := 17) C dX3_runTerms_16 rfl rfl ?_
    refine g_ifnull (pc' := 20) C dX3_runTerms_17 rfl ?_
    refine g_aload_n (pc' := 21) C dX3_runTerms_20 rfl rfl ?_
    refine g_aload_n (pc' := 22) C dX3_runTerms_21 rfl rfl ?_
    refine f_X3_38 (pc' := 25) C dX3_runTerms_22 (by first | assumption | exact rfl | exact al13 rfl | exact Nat.le_of_ble_eq_true rfl) rfl ?_
    refine k_X3_281 (pc' := 28) C (m_X2_runTerm hmz) dX3_runTerms_25 (by first | assumption | exact rfl | exact al13 rfl | exact Nat.le_of_ble_eq_true rfl) ⟨⟨Nat.le_of_ble_eq_true rfl, Nat.le_of_ble_eq_true rfl⟩, rfl, rfl⟩ (Nat.le_of_ble_eq_true rfl) ⟨Nat.zero_le _, Nat.zero_le _⟩ rfl ?_
    refine g_iinc (pc' := 31) C dX3_runTerms_28 rfl (ii1 _) rfl rfl ?_
    refine g_goto (tgt := 2) C dX3_runTerms_31 (by decide) ?_
    refine G_pick [0, 1] rfl (ih (m + 1) _ _ X.rT (by rw [ex1]; exact nI_1 m) (by omega) ?_)
    simpa [rtL, rT_off] using hpost
set_option maxRecDepth 20000 in
theorem m_X3_runTerms {l : Launch} {g : wG} {z : wZ} {I : wI} {P : wP} {O : wO} (X : XI z I P) : RT l yX3_runTerms cX3_runTerms 3 (none) { frames := 2, cells := 0, slots := 0, locals := 41 } g z [.ref (g.2.2 0 0)] I P O (dp (none) (rtL (I 0 0 6) z.1 0 I) (P)) := by
  refine RT.of (own := RX3) rfl (by decide +kernel) (Nat.le_of_ble_eq_true rfl) rfl (fun K C hl hg hR => ?_)
  subst hl
  subst hg
  refine g_iconst (v := 0) (pc' := 1) C dX3_runTerms_0 (by decide) rfl ?_
  refine g_istore_n (pc' := 2) C dX3_runTerms_1 rfl rfl ?_
  exact l_X3_runTerms C hR z.1 0 0 I X nI_0.symm (by omega) ⟨rfl, rfl, rfl⟩
set_option maxRecDepth 20000 in
theorem l_X3_balances {K : wK} {z : wZ} {O : wO} {post : Option Value → wI → wP → Prop} {I : wI} {P : wP} (C : Cx K cX3_balances RX3 4 ((some .int)) { frames := 1, cells := 0, slots := 0, locals := 21 } z) (hR : Rx K z O post) (X : XI z I P) : ∀ (n m : Nat) (x1 x2 : Int32), x2 = nI m → m + n = z.1 → post (some (.int (blL I n m x1))) I P → G K z I P O 0 0 4 [(0, .ref ((Kg K).2.2 0 0)), (1, .int x1), (2, .int x2)] [] := by
  intro n
  induction n with
  | zero =>
    intro m x1 x2 ex2 hk hpost
    refine g_iload_n (pc' := 5) C dX3_balances_4 rfl rfl ?_
    refine g_aload_n (pc' := 6) C dX3_balances_5 rfl rfl ?_
    refine f_X3_31 (pc' := 9) C dX3_balances_6 (by first | assumption | exact rfl | exact al13 rfl | exact Nat.le_of_ble_eq_true rfl) rfl ?_
    refine g_icmp_ge (tgt := 35) (pc' := 12) C dX3_balances_9 (by decide) rfl (fun _ => ?_) (fun q => absurd (by rw [ex2, X.2.2.1, show m = z.1 by omega]; exact Int32.le_refl _) q)
    refine g_iload_n (pc' := 36) C dX3_balances_35 rfl rfl ?_
    exact g_iret C hR dX3_balances_36 hpost
  | succ n ih =>
    intro m x1 x2 ex2 hk hpost
    have hmz : m < z.1 := by omega
    refine g_iload_n (pc' := 5) C dX3_balances_4 rfl rfl ?_
    refine g_aload_n (pc' := 6) C dX3_balances_5 rfl rfl ?_
    refine f_X3_31 (pc' := 9) C dX3_balances_6 (by first | assumption | exact rfl | exact al13 rfl | exact Nat.le_of_ble_eq_true rfl) rfl ?_
    refine g_icmp_ge (tgt := 35) (pc' := 12) C dX3_balances_9 (by decide) rfl (fun c1 => absurd c1 (by rw [ex2, X.2.2.1]; exact nI_ge hmz (by have := X.1; omega))) (fun c1 => ?_)
    have hm2 : wAl z 2 m := hmz
    refine g_aload_n (pc' := 13) C dX3_balances_12 rfl rfl ?_
    refine g_iload_n (pc' := 14) C dX3_balances_13 rfl rfl ?_
    refine k_X3_95 (pc' := 17) C (m_X3_matterAtS X ex2 hmz) dX3_balances_14 (by first | assumption | exact rfl | exact al13 rfl | exact Nat.le_of_ble_eq_true rfl) ⟨⟨Nat.le_of_ble_eq_true rfl, Nat.le_of_ble_eq_true rfl⟩, rfl, rfl⟩ (Nat.le_of_ble_eq_true rfl) ⟨Nat.zero_le _, Nat.zero_le _⟩ rfl ?_
    refine g_astore_n (pc' := 18) C dX3_balances_17 rfl rfl ?_
    refine g_aload_n (pc' := 19) C dX3_balances_18 rfl rfl ?_
    refine g_ifnull (pc' := 22) C dX3_balances_19 rfl ?_
    refine g_iload_n (pc' := 23) C dX3_balances_22 rfl rfl ?_
    refine g_aload_n (pc' := 24) C dX3_balances_23 rfl rfl ?_
    refine f_X3_85 (pc' := 27) C dX3_balances_24 (by first | assumption | exact rfl | exact al13 rfl | exact Nat.le_of_ble_eq_true rfl) rfl ?_
    refine g_iadd (pc' := 28) C dX3_balances_27 rfl ?_
    refine g_istore_n (pc' := 29) C dX3_balances_28 rfl rfl ?_
    refine g_iinc (pc' := 32) C dX3_balances_29 rfl (ii1 _) rfl rfl ?_
    refine g_goto (tgt := 4) C dX3_balances_32 (by decide) ?_
    refine G_pick [0, 1, 2] rfl (ih (m + 1) _ _ (by rw [ex2]; exact nI_1 m) (by omega) ?_)
    simpa [blL] using hpost
set_option maxRecDepth 20000 in
theorem m_X3_balances {l : Launch} {g : wG} {z : wZ} {I : wI} {P : wP} {O : wO} (X : XI z I P) : RT l yX3_balances cX3_balances 4 ((some .int)) { frames := 1, cells := 0, slots := 0, locals := 21 } g z [.ref (g.2.2 0 0)] I P O (dp (some (.int (blL I z.1 0 0))) (I) (P)) := by
  refine RT.of (own := RX3) rfl (by decide +kernel) (Nat.le_of_ble_eq_true rfl) rfl (fun K C hl hg hR => ?_)
  subst hl
  subst hg
  refine g_iconst (v := 0) (pc' := 1) C dX3_balances_0 (by decide) rfl ?_
  refine g_istore_n (pc' := 2) C dX3_balances_1 rfl rfl ?_
  refine g_iconst (v := 0) (pc' := 3) C dX3_balances_2 (by decide) rfl ?_
  refine g_istore_n (pc' := 4) C dX3_balances_3 rfl rfl ?_
  exact l_X3_balances C hR X z.1 0 0 0 nI_0.symm (by omega) ⟨rfl, rfl, rfl⟩
set_option maxRecDepth 20000 in
theorem l_X3_endHearings {K : wK} {z : wZ} {O : wO} {post : Option Value → wI → wP → Prop} {P : wP} (C : Cx K cX3_endHearings RX3 4 ((some .int)) { frames := 2, cells := 0, slots := 0, locals := 40 } z) (hR : Rx K z O post) : ∀ (n h : Nat) (x1 x2 : Int32) (I : wI), XI z I P → x2 = nI h → h + n = z.2 → post (some (.int (ehL P n h (I, x1)).2)) (ehL P n h (I, x1)).1 P → G K z I P O 0 0 4 [(0, .ref ((Kg K).2.2 0 0)), (1, .int x1), (2, .int x2)] [] := by
  intro n
  induction n with
  | zero =>
    intro h x1 x2 I X ex2 hk hpost
    refine g_iload_n (pc' := 5) C dX3_endHearings_4 rfl rfl ?_
    refine g_aload_n (pc' := 6) C dX3_endHearings_5 rfl rfl ?_
    refine f_X3_35 (pc' := 9) C dX3_endHearings_6 (by first | assumption | exact rfl | exact al13 rfl | exact Nat.le_of_ble_eq_true rfl) rfl ?_
    refine g_icmp_ge (tgt := 66) (pc' := 12) C dX3_endHearings_9 (by decide) rfl (fun _ => ?_) (fun q => absurd (by rw [ex2, X.2.2.2.1, show h = z.2 by omega]; exact Int32.le_refl _) q)
    refine g_iload_n (pc' := 67) C dX3_endHearings_66 rfl rfl ?_
    exact g_iret C hR dX3_endHearings_67 hpost
  | succ n ih =>
    intro h x1 x2 I X ex2 hk hpost
    have hhz : h < z.2 := by omega
    refine g_iload_n (pc' := 5) C dX3_endHearings_4 rfl rfl ?_
    refine g_aload_n (pc' := 6) C dX3_endHearings_5 rfl rfl ?_
    refine f_X3_35 (pc' := 9) C dX3_endHearings_6 (by first | assumption | exact rfl | exact al13 rfl | exact Nat.le_of_ble_eq_true rfl) rfl ?_
    refine g_icmp_ge (tgt := 66) (pc' := 12) C dX3_endHearings_9 (by decide) rfl (fun c1 => absurd c1 (by rw [ex2, X.2.2.2.1]; exact nI_ge hhz (by have := X.2.1; omega))) (fun c1 => ?_)
    have hh : wAl z 3 h := hhz
    refine g_aload_n (pc' := 13) C dX3_endHearings_12 rfl rfl ?_
    refine g_iload_n (pc' := 14) C dX3_endHearings_13 rfl rfl ?_
    refine k_X3_149 (pc' := 17) C (m_X3_hearingAtS X ex2 hhz) dX3_endHearings_14 (by first | assumption | exact rfl | exact al13 rfl | exact Nat.le_of_ble_eq_true rfl) ⟨⟨Nat.le_of_ble_eq_true rfl, Nat.le_of_ble_eq_true rfl⟩, rfl, rfl⟩ (Nat.le_of_ble_eq_true rfl) ⟨Nat.zero_le _, Nat.zero_le _⟩ rfl ?_
    refine g_astore_n (pc' := 18) C dX3_endHearings_17 rfl rfl ?_
    refine g_aload_n (pc' := 19) C dX3_endHearings_18 rfl rfl ?_
    refine g_ifnull (pc' := 22) C dX3_endHearings_19 rfl ?_
    refine g_aload_n (pc' := 23) C dX3_endHearings_22 rfl rfl ?_
    refine f_X3_178 (pc' := 26) C dX3_endHearings_23 (by first | assumption | exact rfl | exact al13 rfl | exact Nat.le_of_ble_eq_true rfl) rfl ?_
    refine g_if_ne (tgt := 60) (pc' := 29) C dX3_endHearings_26 (by decide) rfl (fun c2 => ?_) (fun c2 => ?_)
    ·
      refine g_iinc (pc' := 63) C dX3_endHearings_60 rfl (ii1 _) rfl rfl ?_
      refine g_goto (tgt := 4) C dX3_endHearings_63 (by decide) ?_
      refine G_pick [0, 1, 2] rfl (ih (h + 1) _ _ _ (by first | exact X | exact X.hE) (by rw [ex2]; exact nI_1 h) (by omega) ?_)
      simpa [ehL, ehS, c1, c2] using hpost
    ·
      refine g_aload_n (pc' := 30) C dX3_endHearings_29 rfl rfl ?_
      refine f_X3_189 (pc' := 33) C dX3_endHearings_30 (by first | assumption | exact rfl | exact al13 rfl | exact Nat.le_of_ble_eq_true rfl) rfl ?_
      refine g_aload_n (pc' := 34) C dX3_endHearings_33 rfl rfl ?_
      refine f_X3_167 (pc' := 37) C dX3_endHearings_34 (by first | assumption | exact rfl | exact al13 rfl | exact Nat.le_of_ble_eq_true rfl) rfl ?_
      refine g_iadd (pc' := 38) C dX3_endHearings_37 rfl ?_
      refine g_aload_n (pc' := 39) C dX3_endHearings_38 rfl rfl ?_
      refine f_X3_38 (pc' := 42) C dX3_endHearings_39 (by first | assumption | exact rfl | exact al13 rfl | exact Nat.le_of_ble_eq_true rfl) rfl ?_
      refine g_icmp_gt (tgt := 60) (pc' := 45) C dX3_endHearings_42 (by decide) rfl (fun c3 => ?_) (fun c3 => ?_)
      ·
        refine g_iinc (pc' := 63) C dX3_endHearings_60 rfl (ii1 _) rfl rfl ?_
        refine g_goto (tgt := 4) C dX3_endHearings_63 (by decide) ?_
        refine G_pick [0, 1, 2] rfl (ih (h + 1) _ _ _ (by first | exact X | exact X.hE) (by rw [ex2]; exact nI_1 h) (by omega) ?_)
        simpa [ehL, ehS, c1, c2, c3] using hpost
      ·
        refine g_aload_n (pc' := 46) C dX3_endHearings_45 rfl rfl ?_
        refine k_X3_279 (pc' := 49) C (m_X0_end hh (X.hm hh) (X.hm2 hh)) dX3_endHearings_46 (by first | assumption | exact rfl | exact al13 rfl | exact Nat.le_of_ble_eq_true rfl) ⟨⟨Nat.le_of_ble_eq_true rfl, Nat.le_of_ble_eq_true rfl⟩, rfl, rfl⟩ (Nat.le_of_ble_eq_true rfl) ⟨Nat.zero_le _, Nat.zero_le _⟩ rfl ?_
        refine g_aload_n (pc' := 50) C dX3_endHearings_49 rfl rfl ?_
        refine f_X3_178 (pc' := 53) C dX3_endHearings_50 (by first | assumption | exact rfl | exact al13 rfl | exact Nat.le_of_ble_eq_true rfl) rfl ?_
        refine g_iconst (v := 1) (pc' := 54) C dX3_endHearings_53 (by decide) rfl ?_
        refine g_icmp_ne (tgt := 60) (pc' := 57) C dX3_endHearings_54 (by decide) rfl (fun c4 => ?_) (fun c4 => ?_)
        ·
          refine g_iinc (pc' := 63) C dX3_endHearings_60 rfl (ii1 _) rfl rfl ?_
          refine g_goto (tgt := 4) C dX3_endHearings_63 (by decide) ?_
          refine G_pick [0, 1, 2] rfl (ih (h + 1) _ _ _ (by first | exact X | exact X.hE) (by rw [ex2]; exact nI_1 h) (by omega) ?_)
          simpa [ehL, ehS, c1, c2, c3, c4] using hpost
        ·
          refine g_iinc (pc' := 60) C dX3_endHearings_57 rfl (ii1 _) rfl rfl ?_
          refine g_iinc (pc' := 63) C dX3_endHearings_60 rfl (ii1 _) rfl rfl ?_
          refine g_goto (tgt := 4) C dX3_endHearings_63 (by decide) ?_
          refine G_pick [0, 1, 2] rfl (ih (h + 1) _ _ _ (by first | exact X | exact X.hE) (by rw [ex2]; exact nI_1 h) (by omega) ?_)
          simpa [ehL, ehS, c1, c2, c3, c4] using hpost
set_option maxRecDepth 20000 in
theorem m_X3_endHearings {l : Launch} {g : wG} {z : wZ} {I : wI} {P : wP} {O : wO} (X : XI z I P) : RT l yX3_endHearings cX3_endHearings 4 ((some .int)) { frames := 2, cells := 0, slots := 0, locals := 40 } g z [.ref (g.2.2 0 0)] I P O (dp (some (.int (ehL P z.2 0 (I, 0)).2)) ((ehL P z.2 0 (I, 0)).1) (P)) := by
  refine RT.of (own := RX3) rfl (by decide +kernel) (Nat.le_of_ble_eq_true rfl) rfl (fun K C hl hg hR => ?_)
  subst hl
  subst hg
  refine g_iconst (v := 0) (pc' := 1) C dX3_endHearings_0 (by decide) rfl ?_
  refine g_istore_n (pc' := 2) C dX3_endHearings_1 rfl rfl ?_
  refine g_iconst (v := 0) (pc' := 3) C dX3_endHearings_2 (by decide) rfl ?_
  refine g_istore_n (pc' := 4) C dX3_endHearings_3 rfl rfl ?_
  exact l_X3_endHearings C hR z.2 0 0 0 I X nI_0.symm (by omega) ⟨rfl, rfl, rfl⟩
set_option maxRecDepth 20000 in
theorem l_X3_paidHoursOf {K : wK} {z : wZ} {O : wO} {post : Option Value → wI → wP → Prop} {I : wI} {P : wP} {m : Nat} (C : Cx K cX3_paidHoursOf RX3 5 ((some .int)) { frames := 1, cells := 0, slots := 0, locals := 24 } z) (hR : Rx K z O post) (X : XI z I P) (hm2 : wAl z 2 m) : ∀ (n i : Nat) (x2 x3 : Int32), x3 = nI i → i + n = 4 → post (some (.int (phL I P m n i x2))) I P → G K z I P O 0 0 4 [(0, .ref ((Kg K).2.2 0 0)), (1, .ref ((Kg K).2.2 2 m)), (2, .int x2), (3, .int x3)] [] := by
  intro n
  induction n with
  | zero =>
    intro i x2 x3 ex3 hk hpost
    refine g_iload_n (pc' := 5) C dX3_paidHoursOf_4 rfl rfl ?_
    refine g_aload_n (pc' := 6) C dX3_paidHoursOf_5 rfl rfl ?_
    refine f_X3_11 (pc' := 9) C dX3_paidHoursOf_6 (by first | assumption | exact rfl | exact al13 rfl | exact Nat.le_of_ble_eq_true rfl) rfl ?_
    refine g_alen (pc' := 10) (v := 4) (t0 := 4) C dX3_paidHoursOf_9 (by first | assumption | exact rfl | exact al13 rfl | exact Nat.le_of_ble_eq_true rfl) rfl rfl rfl rfl ?_
    refine g_icmp_ge (tgt := 44) (pc' := 13) C dX3_paidHoursOf_10 (by decide) rfl (fun _ => ?_) (fun q => absurd (by rw [ex3, show i = 4 by omega]; decide) q)
    refine g_iload_n (pc' := 45) C dX3_paidHoursOf_44 rfl rfl ?_
    exact g_iret C hR dX3_paidHoursOf_45 hpost
  | succ n ih =>
    intro i x2 x3 ex3 hk hpost
    have hi : wAl z 1 i := (by omega : i < 4)
    refine g_iload_n (pc' := 5) C dX3_paidHoursOf_4 rfl rfl ?_
    refine g_aload_n (pc' := 6) C dX3_paidHoursOf_5 rfl rfl ?_
    refine f_X3_11 (pc' := 9) C dX3_paidHoursOf_6 (by first | assumption | exact rfl | exact al13 rfl | exact Nat.le_of_ble_eq_true rfl) rfl ?_
    refine g_alen (pc' := 10) (v := 4) (t0 := 4) C dX3_paidHoursOf_9 (by first | assumption | exact rfl | exact al13 rfl | exact Nat.le_of_ble_eq_true rfl) rfl rfl rfl rfl ?_
    refine g_icmp_ge (tgt := 44) (pc' := 13) C dX3_paidHoursOf_10 (by decide) rfl (fun c1 => absurd c1 (by rw [ex3]; exact nI_ge (a := i) (b := 4) (by omega) (by decide))) (fun c1 => ?_)
    refine g_aload_n (pc' := 14) C dX3_paidHoursOf_13 rfl rfl ?_
    refine g_iload_n (pc' := 15) C dX3_paidHoursOf_14 rfl rfl ?_
    refine k_X3_42 (pc' := 18) C (m_X3_interpreterAtS ex3 hi (X.2.2.2.2.2.2.1 i hi)) dX3_paidHoursOf_15 (by first | assumption | exact rfl | exact al13 rfl | exact Nat.le_of_ble_eq_true rfl) ⟨⟨Nat.le_of_ble_eq_true rfl, Nat.le_of_ble_eq_true rfl⟩, rfl, rfl⟩ (Nat.le_of_ble_eq_true rfl) ⟨Nat.zero_le _, Nat.zero_le _⟩ rfl ?_
    refine g_astore (pc' := 20) C dX3_paidHoursOf_18 rfl rfl ?_
    refine g_aload (pc' := 22) C dX3_paidHoursOf_20 rfl rfl ?_
    refine g_ifnull (pc' := 25) C dX3_paidHoursOf_22 rfl ?_
    refine g_iload_n (pc' := 26) C dX3_paidHoursOf_25 rfl rfl ?_
    refine g_aload (pc' := 28) C dX3_paidHoursOf_26 rfl rfl ?_
    refine g_aload_n (pc' := 29) C dX3_paidHoursOf_28 rfl rfl ?_
    refine g_aload_n (pc' := 30) C dX3_paidHoursOf_29 rfl rfl ?_
    refine f_X3_38 (pc' := 33) C dX3_paidHoursOf_30 (by first | assumption | exact rfl | exact al13 rfl | exact Nat.le_of_ble_eq_true rfl) rfl ?_
    refine k_X3_284 (pc' := 36) C (m_X1_hoursPaidBy hi hm2 (fun p q hp hq => X.h9 hi hp hq)) dX3_paidHoursOf_33 (by first | assumption | exact rfl | exact al13 rfl | exact Nat.le_of_ble_eq_true rfl) ⟨⟨Nat.le_of_ble_eq_true rfl, Nat.le_of_ble_eq_true rfl⟩, rfl, rfl⟩ (Nat.le_of_ble_eq_true rfl) ⟨Nat.zero_le _, Nat.zero_le _⟩ rfl ?_
    refine g_iadd (pc' := 37) C dX3_paidHoursOf_36 rfl ?_
    refine g_istore_n (pc' := 38) C dX3_paidHoursOf_37 rfl rfl ?_
    refine g_iinc (pc' := 41) C dX3_paidHoursOf_38 rfl (ii1 _) rfl rfl ?_
    refine g_goto (tgt := 4) C dX3_paidHoursOf_41 (by decide) ?_
    refine G_pick [0, 1, 2, 3] rfl (ih (i + 1) _ _ (by rw [ex3]; exact nI_1 i) (by omega) ?_)
    exact hpost
set_option maxRecDepth 20000 in
theorem m_X3_paidHoursOf {l : Launch} {g : wG} {z : wZ} {I : wI} {P : wP} {O : wO} {m : Nat} (X : XI z I P) (hm2 : wAl z 2 m) : RT l yX3_paidHoursOf cX3_paidHoursOf 5 ((some .int)) { frames := 1, cells := 0, slots := 0, locals := 24 } g z [.ref (g.2.2 0 0), .ref (g.2.2 2 m)] I P O (dp (some (.int (phO I P m))) (I) (P)) := by
  refine RT.of (own := RX3) rfl (by decide +kernel) (Nat.le_of_ble_eq_true rfl) rfl (fun K C hl hg hR => ?_)
  subst hl
  subst hg
  refine g_iconst (v := 0) (pc' := 1) C dX3_paidHoursOf_0 (by decide) rfl ?_
  refine g_istore_n (pc' := 2) C dX3_paidHoursOf_1 rfl rfl ?_
  refine g_iconst (v := 0) (pc' := 3) C dX3_paidHoursOf_2 (by decide) rfl ?_
  refine g_istore_n (pc' := 4) C dX3_paidHoursOf_3 rfl rfl ?_
  exact l_X3_paidHoursOf C hR X hm2 4 0 0 0 nI_0.symm rfl ⟨rfl, rfl, rfl⟩
set_option maxRecDepth 20000 in
theorem l_X3_leave {K : wK} {z : wZ} {O : wO} {post : Option Value → wI → wP → Prop} {h i m hr : Nat} (C : Cx K cX3_leave RX3 4 (none) { frames := 2, cells := 0, slots := 0, locals := 44 } z) (hR : Rx K z O post) (hh : wAl z 3 h) (hi : wAl z 1 i) (hm2 : wAl z 2 m) (hr4 : hr ≤ 4) : ∀ (n k : Nat) (x3 : Int32) (I : wI) (P : wP), XI z I P → P 3 h 1 = some m → I 3 h 2 = nI hr → x3 = nI k → k + n = hr → post none (lvL i m h n k (I, P)).1 (lvL i m h n k (I, P)).2 → G K z I P O 0 0 42 [(0, .ref ((Kg K).2.2 0 0)), (1, .ref ((Kg K).2.2 3 h)), (2, .ref ((Kg K).2.2 1 i)), (3, .int x3)] [] := by
  intro n
  induction n with
  | zero =>
    intro k x3 I P X hm hr ex3 hk hpost
    refine g_aload_n (pc' := 43) C dX3_leave_42 rfl rfl ?_
    refine g_ifnull (pc' := 46) C dX3_leave_43 rfl ?_
    refine g_iload_n (pc' := 47) C dX3_leave_46 rfl rfl ?_
    refine g_aload_n (pc' := 48) C dX3_leave_47 rfl rfl ?_
    refine f_X3_167 (pc' := 51) C dX3_leave_48 (by first | assumption | exact rfl | exact al13 rfl | exact Nat.le_of_ble_eq_true rfl) rfl ?_
    refine g_icmp_ge (tgt := 89) (pc' := 54) C dX3_leave_51 (by decide) rfl (fun _ => ?_) (fun q => absurd (by rw [ex3, hr, show k = _ by omega]; exact Int32.le_refl _) q)
    exact g_vret C hR dX3_leave_89 hpost
  | succ n ih =>
    intro k x3 I P X hm hr ex3 hk hpost
    refine g_aload_n (pc' := 43) C dX3_leave_42 rfl rfl ?_
    refine g_ifnull (pc' := 46) C dX3_leave_43 rfl ?_
    refine g_iload_n (pc' := 47) C dX3_leave_46 rfl rfl ?_
    refine g_aload_n (pc' := 48) C dX3_leave_47 rfl rfl ?_
    refine f_X3_167 (pc' := 51) C dX3_leave_48 (by first | assumption | exact rfl | exact al13 rfl | exact Nat.le_of_ble_eq_true rfl) rfl ?_
    refine g_icmp_ge (tgt := 89) (pc' := 54) C dX3_leave_51 (by decide) rfl (fun c1 => absurd c1 (by rw [ex3, hr]; exact nI_ge (by omega) (by omega))) (fun c1 => ?_)
    refine g_iload_n (pc' := 55) C dX3_leave_54 rfl rfl ?_
    refine g_aload_n (pc' := 56) C dX3_leave_55 rfl rfl ?_
    refine f_X3_268 (pc' := 59) C dX3_leave_56 (by first | assumption | exact rfl | exact al13 rfl | exact Nat.le_of_ble_eq_true rfl) rfl ?_
    refine g_alen (pc' := 60) (v := 4) (t0 := 0) C dX3_leave_59 (by first | assumption | exact rfl | exact al13 rfl | exact Nat.le_of_ble_eq_true rfl) rfl rfl rfl rfl ?_
    refine g_icmp_ge (tgt := 89) (pc' := 63) C dX3_leave_60 (by decide) rfl (fun c2 => absurd c2 (by rw [ex3]; exact nI_ge (a := k) (b := 4) (by omega) (by decide))) (fun c2 => ?_)
    refine g_aload_n (pc' := 64) C dX3_leave_63 rfl rfl ?_
    refine g_aload_n (pc' := 65) C dX3_leave_64 rfl rfl ?_
    refine f_X3_189 (pc' := 68) C dX3_leave_65 (by first | assumption | exact rfl | exact al13 rfl | exact Nat.le_of_ble_eq_true rfl) rfl ?_
    refine g_iload_n (pc' := 69) C dX3_leave_68 rfl rfl ?_
    refine g_iadd (pc' := 70) C dX3_leave_69 rfl ?_
    refine g_aload_n (pc' := 71) C dX3_leave_70 rfl rfl ?_
    refine f_X3_161 (pc' := 74) C hm dX3_leave_71 (by first | assumption | exact rfl | exact al13 rfl | exact Nat.le_of_ble_eq_true rfl) rfl ?_
    refine g_aload_n (pc' := 75) C dX3_leave_74 rfl rfl ?_
    refine f_X3_268 (pc' := 78) C dX3_leave_75 (by first | assumption | exact rfl | exact al13 rfl | exact Nat.le_of_ble_eq_true rfl) rfl ?_
    refine g_iload_n (pc' := 79) C dX3_leave_78 rfl rfl ?_
    refine g_iald (pc' := 80) C (k) ex3 (by omega) dX3_leave_79 (by first | assumption | exact rfl | exact al13 rfl | exact Nat.le_of_ble_eq_true rfl) rfl rfl rfl ?_
    refine k_X3_276 (pc' := 83) C (m_X1_keep hi hm2) dX3_leave_80 (by first | assumption | exact rfl | exact al13 rfl | exact Nat.le_of_ble_eq_true rfl) ⟨⟨Nat.le_of_ble_eq_true rfl, Nat.le_of_ble_eq_true rfl⟩, rfl, rfl⟩ (Nat.le_of_ble_eq_true rfl) ⟨Nat.zero_le _, Nat.zero_le _⟩ rfl ?_
    refine g_iinc (pc' := 86) C dX3_leave_83 rfl (ii1 _) rfl rfl ?_
    refine g_goto (tgt := 42) C dX3_leave_86 (by decide) ?_
    refine G_pick [0, 1, 2, 3] rfl (ih (k + 1) _ _ _ (X.kp hm2) (by unfold kpP; rw [upP_at, if_neg (by omega)]; exact hm) (by unfold kpI; rw [upI_at, if_neg (by omega), upI_at, if_neg (by omega)]; exact hr) (by rw [ex3]; exact nI_1 k) (by omega) ?_)
    rw [ex3]
    exact hpost
set_option maxRecDepth 20000 in
theorem m_X3_leave {l : Launch} {g : wG} {z : wZ} {I : wI} {P : wP} {O : wO} {h : Nat} (X : XI z I P) (hh : wAl z 3 h) : RT l yX3_leave cX3_leave 4 (none) { frames := 2, cells := 0, slots := 0, locals := 44 } g z [.ref (g.2.2 0 0), .ref (g.2.2 3 h)] I P O (dp (none) ((lvR I P h).1) ((lvR I P h).2)) := by
  refine RT.of (own := RX3) rfl (by decide +kernel) (Nat.le_of_ble_eq_true rfl) rfl (fun K C hl hg hR => ?_)
  subst hl
  subst hg
  have hm := X.hm hh
  have hm2 := X.hm2 hh
  refine g_aload_n (pc' := 1) C dX3_leave_0 rfl rfl ?_
  refine f_X3_189 (pc' := 4) C dX3_leave_1 (by first | assumption | exact rfl | exact al13 rfl | exact Nat.le_of_ble_eq_true rfl) rfl ?_
  refine g_aload_n (pc' := 5) C dX3_leave_4 rfl rfl ?_
  refine f_X3_38 (pc' := 8) C dX3_leave_5 (by first | assumption | exact rfl | exact al13 rfl | exact Nat.le_of_ble_eq_true rfl) rfl ?_
  refine g_isub (pc' := 9) C dX3_leave_8 rfl ?_
  refine g_bipush (v := 8) (pc' := 11) C dX3_leave_9 (by decide) rfl ?_
  refine g_icmp_lt (tgt := 31) (pc' := 14) C dX3_leave_11 (by decide) rfl (fun c1 => ?_) (fun c1 => ?_)
  ·
    refine g_aload_n (pc' := 32) C dX3_leave_31 rfl rfl ?_
    refine g_aload_n (pc' := 33) C dX3_leave_32 rfl rfl ?_
    refine f_X3_242 (pc' := 36) C dX3_leave_33 (by first | assumption | exact rfl | exact al13 rfl | exact Nat.le_of_ble_eq_true rfl) rfl ?_
    rcases in_of (I 3 h 6) 4 (by decide) with ⟨j, hj4, hj⟩ | hx
    · have hn : ¬ (I 3 h 6 < 0 ∨ 4 ≤ I 3 h 6) := by rw [hj]; exact fun e => e.elim (nI_pos (by omega)) (nI_ge (a := j) (b := 4) hj4 (by decide))
      have hcl : (I 3 h 6).toNatClampNeg = j := by rw [hj]; exact nI_clamp (by omega)
      have hi : wAl z 1 j := hj4
      refine k_X3_42 (pc' := 39) C (m_X3_interpreterAtS hj hj4 (X.2.2.2.2.2.2.1 j hj4)) dX3_leave_36 (by first | assumption | exact rfl | exact al13 rfl | exact Nat.le_of_ble_eq_true rfl) ⟨⟨Nat.le_of_ble_eq_true rfl, Nat.le_of_ble_eq_true rfl⟩, rfl, rfl⟩ (Nat.le_of_ble_eq_true rfl) ⟨Nat.zero_le _, Nat.zero_le _⟩ rfl ?_
      refine g_astore_n (pc' := 40) C dX3_leave_39 rfl rfl ?_
      refine g_iconst (v := 0) (pc' := 41) C dX3_leave_40 (by decide) rfl ?_
      refine g_istore_n (pc' := 42) C dX3_leave_41 rfl rfl ?_
      refine l_X3_leave C hR hh hi hm2 (X.hr4 hh) (hrN I h) 0 0 I P X hm (X.hr hh) nI_0.symm (by omega) ⟨rfl, ?_, ?_⟩ <;> simp [lvR, c1, hn, hcl]
    · have hx : I 3 h 6 < 0 ∨ 4 ≤ I 3 h 6 := hx
      refine k_X3_42 (pc' := 39) C (m_X3_interpreterAtN hx) dX3_leave_36 (by first | assumption | exact rfl | exact al13 rfl | exact Nat.le_of_ble_eq_true rfl) ⟨⟨Nat.le_of_ble_eq_true rfl, Nat.le_of_ble_eq_true rfl⟩, rfl, rfl⟩ (Nat.le_of_ble_eq_true rfl) ⟨Nat.zero_le _, Nat.zero_le _⟩ rfl ?_
      refine g_astore_nN (pc' := 40) C dX3_leave_39 rfl rfl ?_
      refine g_iconst (v := 0) (pc' := 41) C dX3_leave_40 (by decide) rfl ?_
      refine g_istore_n (pc' := 42) C dX3_leave_41 rfl rfl ?_
      refine g_aload_nN (pc' := 43) C dX3_leave_42 rfl rfl ?_
      refine g_ifnullN (tgt := 89) C dX3_leave_43 (by decide) ?_
      exact g_vret C hR dX3_leave_89 ⟨rfl, by simp [lvR, c1, hx], by simp [lvR, c1, hx]⟩
  ·
    refine g_aload_n (pc' := 15) C dX3_leave_14 rfl rfl ?_
    refine f_X3_161 (pc' := 18) C hm dX3_leave_15 (by first | assumption | exact rfl | exact al13 rfl | exact Nat.le_of_ble_eq_true rfl) rfl ?_
    refine g_dup (pc' := 19) C dX3_leave_18 rfl rfl ?_
    refine f_X3_85 (pc' := 22) C dX3_leave_19 (by first | assumption | exact rfl | exact al13 rfl | exact Nat.le_of_ble_eq_true rfl) rfl ?_
    refine g_aload_n (pc' := 23) C dX3_leave_22 rfl rfl ?_
    refine k_X3_248 (pc' := 26) C (m_X0_charged hh) dX3_leave_23 (by first | assumption | exact rfl | exact al13 rfl | exact Nat.le_of_ble_eq_true rfl) ⟨⟨Nat.le_of_ble_eq_true rfl, Nat.le_of_ble_eq_true rfl⟩, rfl, rfl⟩ (Nat.le_of_ble_eq_true rfl) ⟨Nat.zero_le _, Nat.zero_le _⟩ rfl ?_
    refine g_iadd (pc' := 27) C dX3_leave_26 rfl ?_
    refine p_X3_85 (pc' := 30) C dX3_leave_27 (by first | assumption | exact rfl | exact al13 rfl | exact Nat.le_of_ble_eq_true rfl) rfl ?_
    exact g_vret C hR dX3_leave_30 ⟨rfl, by simp [lvR, c1], by simp [lvR, c1]⟩
end WMove
end
section
section WPut
set_option maxRecDepth 20000 in
theorem l_X3_putS {K : wK} {z : wZ} {O : wO} {post : Option Value → wI → wP → Prop} {h i m hr : Nat} {r x f now : Int32} (C : Cx K cX3_put RX3 7 (none) { frames := 3, cells := 0, slots := 0, locals := 69 } z) (hR : Rx K z O post) (hh : wAl z 3 h) (hi : wAl z 1 i) (hm2 : wAl z 2 m) (hr4 : hr ≤ 4) : ∀ (n k : Nat) (x6 : Int32) (I : wI) (P : wP), XI z I P → P 3 h 1 = some m → I 3 h 2 = nI hr → I 0 0 6 = now → x6 = nI k → k + n = hr → post none (putB (ptL i m h f now n k (I, P)).1 m h) (ptL i m h f now n k (I, P)).2 → G K z I P O 0 0 18 [(0, .ref ((Kg K).2.2 0 0)), (1, .ref ((Kg K).2.2 3 h)), (2, .int r), (3, .int x), (4, .int f), (5, .ref ((Kg K).2.2 1 i)), (6, .int x6)] [] := by
  intro n
  induction n with
  | zero =>
    intro k x6 I P X hm hr hnow ex6 hk hpost
    subst ex6
    refine g_iload (pc' := 20) C dX3_put_18 rfl rfl ?_
    refine g_aload_n (pc' := 21) C dX3_put_20 rfl rfl ?_
    refine f_X3_167 (pc' := 24) C dX3_put_21 (by first | assumption | exact rfl | exact al13 rfl | exact Nat.le_of_ble_eq_true rfl) rfl ?_
    refine g_icmp_ge (tgt := 77) (pc' := 27) C dX3_put_24 (by decide) rfl (fun c1 => ?_) (fun c1 => absurd (by rw [hr, show k = _ by omega]; exact Int32.le_refl _) c1)
    refine g_aload_n (pc' := 78) C dX3_put_77 rfl rfl ?_
    refine f_X3_161 (pc' := 81) C hm dX3_put_78 (by first | assumption | exact rfl | exact al13 rfl | exact Nat.le_of_ble_eq_true rfl) rfl ?_
    refine g_dup (pc' := 82) C dX3_put_81 rfl rfl ?_
    refine f_X3_85 (pc' := 85) C dX3_put_82 (by first | assumption | exact rfl | exact al13 rfl | exact Nat.le_of_ble_eq_true rfl) rfl ?_
    refine g_aload_n (pc' := 86) C dX3_put_85 rfl rfl ?_
    refine k_X3_248 (pc' := 89) C (m_X0_charged hh) dX3_put_86 (by first | assumption | exact rfl | exact al13 rfl | exact Nat.le_of_ble_eq_true rfl) ⟨⟨Nat.le_of_ble_eq_true rfl, Nat.le_of_ble_eq_true rfl⟩, rfl, rfl⟩ (Nat.le_of_ble_eq_true rfl) ⟨Nat.zero_le _, Nat.zero_le _⟩ rfl ?_
    refine g_isub (pc' := 90) C dX3_put_89 rfl ?_
    refine p_X3_85 (pc' := 93) C dX3_put_90 (by first | assumption | exact rfl | exact al13 rfl | exact Nat.le_of_ble_eq_true rfl) rfl ?_
    exact g_vret C hR dX3_put_93 hpost
  | succ n ih =>
    intro k x6 I P X hm hr hnow ex6 hk hpost
    subst ex6
    refine g_iload (pc' := 20) C dX3_put_18 rfl rfl ?_
    refine g_aload_n (pc' := 21) C dX3_put_20 rfl rfl ?_
    refine f_X3_167 (pc' := 24) C dX3_put_21 (by first | assumption | exact rfl | exact al13 rfl | exact Nat.le_of_ble_eq_true rfl) rfl ?_
    refine g_icmp_ge (tgt := 77) (pc' := 27) C dX3_put_24 (by decide) rfl (fun c1 => absurd c1 (by rw [hr]; exact nI_ge (by omega) (by omega))) (fun c1 => ?_)
    refine g_iload (pc' := 29) C dX3_put_27 rfl rfl ?_
    refine g_aload_n (pc' := 30) C dX3_put_29 rfl rfl ?_
    refine f_X3_268 (pc' := 33) C dX3_put_30 (by first | assumption | exact rfl | exact al13 rfl | exact Nat.le_of_ble_eq_true rfl) rfl ?_
    refine g_alen (pc' := 34) (v := 4) (t0 := 0) C dX3_put_33 (by first | assumption | exact rfl | exact al13 rfl | exact Nat.le_of_ble_eq_true rfl) rfl rfl rfl rfl ?_
    refine g_icmp_ge (tgt := 77) (pc' := 37) C dX3_put_34 (by decide) rfl (fun c2 => absurd c2 (nI_ge (a := k) (b := 4) (by omega) (by decide))) (fun c2 => ?_)
    refine g_aload_n (pc' := 38) C dX3_put_37 rfl rfl ?_
    refine f_X3_268 (pc' := 41) C dX3_put_38 (by first | assumption | exact rfl | exact al13 rfl | exact Nat.le_of_ble_eq_true rfl) rfl ?_
    refine g_iload (pc' := 43) C dX3_put_41 rfl rfl ?_
    refine g_aload (pc' := 45) C dX3_put_43 rfl rfl ?_
    refine g_ifnonnull (tgt := 52) C dX3_put_45 (by decide) ?_
    refine g_aload (pc' := 54) C dX3_put_52 rfl rfl ?_
    refine g_iload (pc' := 56) C dX3_put_54 rfl rfl ?_
    refine g_iload (pc' := 58) C dX3_put_56 rfl rfl ?_
    refine g_iadd (pc' := 59) C dX3_put_58 rfl ?_
    refine g_aload_n (pc' := 60) C dX3_put_59 rfl rfl ?_
    refine f_X3_38 (pc' := 63) C dX3_put_60 (by first | assumption | exact rfl | exact al13 rfl | exact Nat.le_of_ble_eq_true rfl) rfl ?_
    refine g_aload_n (pc' := 64) C dX3_put_63 rfl rfl ?_
    refine f_X3_161 (pc' := 67) C hm dX3_put_64 (by first | assumption | exact rfl | exact al13 rfl | exact Nat.le_of_ble_eq_true rfl) rfl ?_
    refine k_X3_272 (pc' := 70) C (m_X1_take hi hm2 (fun q hq => X.h9 hi (rg_lt _) hq)) dX3_put_67 (by first | assumption | exact rfl | exact al13 rfl | exact Nat.le_of_ble_eq_true rfl) ⟨⟨Nat.le_of_ble_eq_true rfl, Nat.le_of_ble_eq_true rfl⟩, rfl, rfl⟩ (Nat.le_of_ble_eq_true rfl) ⟨Nat.zero_le _, Nat.zero_le _⟩ rfl ?_
    refine g_iast (pc' := 71) C (k) rfl (by omega) dX3_put_70 (by first | assumption | exact rfl | exact al13 rfl | exact Nat.le_of_ble_eq_true rfl) (fun _ => rfl) rfl rfl ?_
    refine g_iinc (pc' := 74) C dX3_put_71 rfl (ii1 _) rfl rfl ?_
    refine g_goto (tgt := 18) C dX3_put_74 (by decide) ?_
    refine G_pick [0, 1, 2, 3, 4, 5, 6] rfl (ih (k + 1) _ _ _ (XI.upI X.tk _ (by omega) (by omega) (by omega)) (by rw [tkP_off (by decide)]; exact hm) (by rw [upI_at, if_neg (by omega), tkI_off (by omega)]; exact hr) (by rw [upI_at, if_neg (by omega), tkI_off (by omega)]; exact hnow) (nI_1 k) (by omega) ?_)
    rw [hnow]
    exact hpost
set_option maxRecDepth 20000 in
theorem m_X3_putS {l : Launch} {g : wG} {z : wZ} {I : wI} {P : wP} {O : wO} {h i : Nat} {r x f : Int32} (X : XI z I P) (hh : wAl z 3 h) (hj : x = nI i) (hi : wAl z 1 i) : RT l yX3_put cX3_put 7 (none) { frames := 3, cells := 0, slots := 0, locals := 69 } g z [.ref (g.2.2 0 0), .ref (g.2.2 3 h), .int r, .int x, .int f] I P O (dp (none) ((putS I P h i r x f).1) ((putS I P h i r x f).2)) := by
  refine RT.of (own := RX3) rfl (by decide +kernel) (Nat.le_of_ble_eq_true rfl) rfl (fun K C hl hg hR => ?_)
  subst hl
  subst hg
  refine g_aload_n (pc' := 1) C dX3_put_0 rfl rfl ?_
  refine g_iload_n (pc' := 2) C dX3_put_1 rfl rfl ?_
  refine g_iload_n (pc' := 3) C dX3_put_2 rfl rfl ?_
  refine g_iload (pc' := 5) C dX3_put_3 rfl rfl ?_
  refine k_X3_264 (pc' := 8) C (m_X0_settleAt hh) dX3_put_5 (by first | assumption | exact rfl | exact al13 rfl | exact Nat.le_of_ble_eq_true rfl) ⟨⟨Nat.le_of_ble_eq_true rfl, Nat.le_of_ble_eq_true rfl⟩, rfl, rfl⟩ (Nat.le_of_ble_eq_true rfl) ⟨Nat.zero_le _, Nat.zero_le _⟩ rfl ?_
  refine g_aload_n (pc' := 9) C dX3_put_8 rfl rfl ?_
  refine g_iload_n (pc' := 10) C dX3_put_9 rfl rfl ?_
  refine k_X3_42 (pc' := 13) C (m_X3_interpreterAtS hj hi (X.2.2.2.2.2.2.1 i hi)) dX3_put_10 (by first | assumption | exact rfl | exact al13 rfl | exact Nat.le_of_ble_eq_true rfl) ⟨⟨Nat.le_of_ble_eq_true rfl, Nat.le_of_ble_eq_true rfl⟩, rfl, rfl⟩ (Nat.le_of_ble_eq_true rfl) ⟨Nat.zero_le _, Nat.zero_le _⟩ rfl ?_
  refine g_astore (pc' := 15) C dX3_put_13 rfl rfl ?_
  refine g_iconst (v := 0) (pc' := 16) C dX3_put_15 (by decide) rfl ?_
  refine g_istore (pc' := 18) C dX3_put_16 rfl rfl ?_
  exact l_X3_putS C hR hh hi (X.hm2 hh) (X.hr4 hh) (hrN I h) 0 0 _ P X.sA (X.hm hh) (by rw [sA_off (by omega)]; exact X.hr hh) (sA_off (by omega)) nI_0.symm (by omega) ⟨rfl, rfl, rfl⟩
set_option maxRecDepth 20000 in
theorem l_X3_putN {K : wK} {z : wZ} {O : wO} {post : Option Value → wI → wP → Prop} {h m hr : Nat} {r x f : Int32} {P : wP} (C : Cx K cX3_put RX3 7 (none) { frames := 3, cells := 0, slots := 0, locals := 69 } z) (hR : Rx K z O post) (hh : wAl z 3 h) (hm : P 3 h 1 = some m) (hm2 : wAl z 2 m) (hr4 : hr ≤ 4) : ∀ (n k : Nat) (x6 : Int32) (I : wI), XI z I P → I 3 h 2 = nI hr → x6 = nI k → k + n = hr → post none (putB (p0L h n k I) m h) P → G K z I P O 0 0 18 [(0, .ref ((Kg K).2.2 0 0)), (1, .ref ((Kg K).2.2 3 h)), (2, .int r), (3, .int x), (4, .int f), (5, .null), (6, .int x6)] [] := by
  intro n
  induction n with
  | zero =>
    intro k x6 I X hr ex6 hk hpost
    subst ex6
    refine g_iload (pc' := 20) C dX3_put_18 rfl rfl ?_
    refine g_aload_n (pc' := 21) C dX3_put_20 rfl rfl ?_
    refine f_X3_167 (pc' := 24) C dX3_put_21 (by first | assumption | exact rfl | exact al13 rfl | exact Nat.le_of_ble_eq_true rfl) rfl ?_
    refine g_icmp_ge (tgt := 77) (pc' := 27) C dX3_put_24 (by decide) rfl (fun c1 => ?_) (fun c1 => absurd (by rw [hr, show k = _ by omega]; exact Int32.le_refl _) c1)
    refine g_aload_n (pc' := 78) C dX3_put_77 rfl rfl ?_
    refine f_X3_161 (pc' := 81) C hm dX3_put_78 (by first | assumption | exact rfl | exact al13 rfl | exact Nat.le_of_ble_eq_true rfl) rfl ?_
    refine g_dup (pc' := 82) C dX3_put_81 rfl rfl ?_
    refine f_X3_85 (pc' := 85) C dX3_put_82 (by first | assumption | exact rfl | exact al13 rfl | exact Nat.le_of_ble_eq_true rfl) rfl ?_
    refine g_aload_n (pc' := 86) C dX3_put_85 rfl rfl ?_
    refine k_X3_248 (pc' := 89) C (m_X0_charged hh) dX3_put_86 (by first | assumption | exact rfl | exact al13 rfl | exact Nat.le_of_ble_eq_true rfl) ⟨⟨Nat.le_of_ble_eq_true rfl, Nat.le_of_ble_eq_true rfl⟩, rfl, rfl⟩ (Nat.le_of_ble_eq_true rfl) ⟨Nat.zero_le _, Nat.zero_le _⟩ rfl ?_
    refine g_isub (pc' := 90) C dX3_put_89 rfl ?_
    refine p_X3_85 (pc' := 93) C dX3_put_90 (by first | assumption | exact rfl | exact al13 rfl | exact Nat.le_of_ble_eq_true rfl) rfl ?_
    exact g_vret C hR dX3_put_93 hpost
  | succ n ih =>
    intro k x6 I X hr ex6 hk hpost
    subst ex6
    refine g_iload (pc' := 20) C dX3_put_18 rfl rfl ?_
    refine g_aload_n (pc' := 21) C dX3_put_20 rfl rfl ?_
    refine f_X3_167 (pc' := 24) C dX3_put_21 (by first | assumption | exact rfl | exact al13 rfl | exact Nat.le_of_ble_eq_true rfl) rfl ?_
    refine g_icmp_ge (tgt := 77) (pc' := 27) C dX3_put_24 (by decide) rfl (fun c1 => absurd c1 (by rw [hr]; exact nI_ge (by omega) (by omega))) (fun c1 => ?_)
    refine g_iload (pc' := 29) C dX3_put_27 rfl rfl ?_
    refine g_aload_n (pc' := 30) C dX3_put_29 rfl rfl ?_
    refine f_X3_268 (pc' := 33) C dX3_put_30 (by first | assumption | exact rfl | exact al13 rfl | exact Nat.le_of_ble_eq_true rfl) rfl ?_
    refine g_alen (pc' := 34) (v := 4) (t0 := 0) C dX3_put_33 (by first | assumption | exact rfl | exact al13 rfl | exact Nat.le_of_ble_eq_true rfl) rfl rfl rfl rfl ?_
    refine g_icmp_ge (tgt := 77) (pc' := 37) C dX3_put_34 (by decide) rfl (fun c2 => absurd c2 (nI_ge (a := k) (b := 4) (by omega) (by decide))) (fun c2 => ?_)
    refine g_aload_n (pc' := 38) C dX3_put_37 rfl rfl ?_
    refine f_X3_268 (pc' := 41) C dX3_put_38 (by first | assumption | exact rfl | exact al13 rfl | exact Nat.le_of_ble_eq_true rfl) rfl ?_
    refine g_iload (pc' := 43) C dX3_put_41 rfl rfl ?_
    refine g_aloadN (pc' := 45) C dX3_put_43 rfl rfl ?_
    refine g_ifnonnullN (pc' := 48) C dX3_put_45 rfl ?_
    refine g_iconst (v := 0) (pc' := 49) C dX3_put_48 (by decide) rfl ?_
    refine g_goto (tgt := 70) C dX3_put_49 (by decide) ?_
    refine g_iast (pc' := 71) C (k) rfl (by omega) dX3_put_70 (by first | assumption | exact rfl | exact al13 rfl | exact Nat.le_of_ble_eq_true rfl) (fun _ => rfl) rfl rfl ?_
    refine g_iinc (pc' := 74) C dX3_put_71 rfl (ii1 _) rfl rfl ?_
    refine g_goto (tgt := 18) C dX3_put_74 (by decide) ?_
    exact G_pick [0, 1, 2, 3, 4, 5, 6] rfl (ih (k + 1) _ _ (XI.upI X _ (by omega) (by omega) (by omega)) (by rw [upI_at, if_neg (by omega)]; exact hr) (nI_1 k) (by omega) hpost)
set_option maxRecDepth 20000 in
theorem m_X3_putN {l : Launch} {g : wG} {z : wZ} {I : wI} {P : wP} {O : wO} {h : Nat} {r x f : Int32} (X : XI z I P) (hh : wAl z 3 h) (hx : x < 0 ∨ 4 ≤ x) : RT l yX3_put cX3_put 7 (none) { frames := 3, cells := 0, slots := 0, locals := 69 } g z [.ref (g.2.2 0 0), .ref (g.2.2 3 h), .int r, .int x, .int f] I P O (dp (none) (putN I P h r x f) (P)) := by
  refine RT.of (own := RX3) rfl (by decide +kernel) (Nat.le_of_ble_eq_true rfl) rfl (fun K C hl hg hR => ?_)
  subst hl
  subst hg
  refine g_aload_n (pc' := 1) C dX3_put_0 rfl rfl ?_
  refine g_iload_n (pc' := 2) C dX3_put_1 rfl rfl ?_
  refine g_iload_n (pc' := 3) C dX3_put_2 rfl rfl ?_
  refine g_iload (pc' := 5) C dX3_put_3 rfl rfl ?_
  refine k_X3_264 (pc' := 8) C (m_X0_settleAt hh) dX3_put_5 (by first | assumption | exact rfl | exact al13 rfl | exact Nat.le_of_ble_eq_true rfl) ⟨⟨Nat.le_of_ble_eq_true rfl, Nat.le_of_ble_eq_true rfl⟩, rfl, rfl⟩ (Nat.le_of_ble_eq_true rfl) ⟨Nat.zero_le _, Nat.zero_le _⟩ rfl ?_
  refine g_aload_n (pc' := 9) C dX3_put_8 rfl rfl ?_
  refine g_iload_n (pc' := 10) C dX3_put_9 rfl rfl ?_
  refine k_X3_42 (pc' := 13) C (m_X3_interpreterAtN hx) dX3_put_10 (by first | assumption | exact rfl | exact al13 rfl | exact Nat.le_of_ble_eq_true rfl) ⟨⟨Nat.le_of_ble_eq_true rfl, Nat.le_of_ble_eq_true rfl⟩, rfl, rfl⟩ (Nat.le_of_ble_eq_true rfl) ⟨Nat.zero_le _, Nat.zero_le _⟩ rfl ?_
  refine g_astoreN (pc' := 15) C dX3_put_13 rfl rfl ?_
  refine g_iconst (v := 0) (pc' := 16) C dX3_put_15 (by decide) rfl ?_
  refine g_istore (pc' := 18) C dX3_put_16 rfl rfl ?_
  exact l_X3_putN C hR hh (X.hm hh) (X.hm2 hh) (X.hr4 hh) (hrN I h) 0 0 _ X.sA (by rw [sA_off (by omega)]; exact X.hr hh) nI_0.symm (by omega) ⟨rfl, rfl, rfl⟩
set_option maxRecDepth 20000 in
theorem l_X3_dropAllOf {K : wK} {z : wZ} {O : wO} {post : Option Value → wI → wP → Prop} {m : Nat} (C : Cx K cX3_dropAllOf RX3 5 ((some .int)) { frames := 3, cells := 0, slots := 0, locals := 67 } z) (hR : Rx K z O post) (hm2 : wAl z 2 m) : ∀ (n h : Nat) (x2 x3 : Int32) (I : wI) (P : wP), XI z I P → x3 = nI h → h + n = z.2 → post (some (.int (daL m n h (I, P, x2)).2.2)) (daL m n h (I, P, x2)).1 (daL m n h (I, P, x2)).2.1 → G K z I P O 0 0 4 [(0, .ref ((Kg K).2.2 0 0)), (1, .ref ((Kg K).2.2 2 m)), (2, .int x2), (3, .int x3)] [] := by
  intro n
  induction n with
  | zero =>
    intro h x2 x3 I P X ex3 hk hpost
    refine g_iload_n (pc' := 5) C dX3_dropAllOf_4 rfl rfl ?_
    refine g_aload_n (pc' := 6) C dX3_dropAllOf_5 rfl rfl ?_
    refine f_X3_35 (pc' := 9) C dX3_dropAllOf_6 (by first | assumption | exact rfl | exact al13 rfl | exact Nat.le_of_ble_eq_true rfl) rfl ?_
    refine g_icmp_ge (tgt := 71) (pc' := 12) C dX3_dropAllOf_9 (by decide) rfl (fun c1 => ?_) (fun c1 => absurd (by rw [ex3, X.2.2.2.1, show h = z.2 by omega]; exact Int32.le_refl _) c1)
    refine g_iload_n (pc' := 72) C dX3_dropAllOf_71 rfl rfl ?_
    exact g_iret C hR dX3_dropAllOf_72 hpost
  | succ n ih =>
    intro h x2 x3 I P X ex3 hk hpost
    have hhz : h < z.2 := by omega
    have hh : wAl z 3 h := hhz
    have hmx := X.hm2 hh
    refine g_iload_n (pc' := 5) C dX3_dropAllOf_4 rfl rfl ?_
    refine g_aload_n (pc' := 6) C dX3_dropAllOf_5 rfl rfl ?_
    refine f_X3_35 (pc' := 9) C dX3_dropAllOf_6 (by first | assumption | exact rfl | exact al13 rfl | exact Nat.le_of_ble_eq_true rfl) rfl ?_
    refine g_icmp_ge (tgt := 71) (pc' := 12) C dX3_dropAllOf_9 (by decide) rfl (fun c1 => absurd c1 (by rw [ex3, X.2.2.2.1]; exact nI_ge hhz (by have := X.2.1; omega))) (fun c1 => ?_)
    refine g_aload_n (pc' := 13) C dX3_dropAllOf_12 rfl rfl ?_
    refine g_iload_n (pc' := 14) C dX3_dropAllOf_13 rfl rfl ?_
    refine k_X3_149 (pc' := 17) C (m_X3_hearingAtS X ex3 hhz) dX3_dropAllOf_14 (by first | assumption | exact rfl | exact al13 rfl | exact Nat.le_of_ble_eq_true rfl) ⟨⟨Nat.le_of_ble_eq_true rfl, Nat.le_of_ble_eq_true rfl⟩, rfl, rfl⟩ (Nat.le_of_ble_eq_true rfl) ⟨Nat.zero_le _, Nat.zero_le _⟩ rfl ?_
    refine g_astore (pc' := 19) C dX3_dropAllOf_17 rfl rfl ?_
    refine g_aload (pc' := 21) C dX3_dropAllOf_19 rfl rfl ?_
    refine g_ifnull (pc' := 24) C dX3_dropAllOf_21 rfl ?_
    refine g_aload (pc' := 26) C dX3_dropAllOf_24 rfl rfl ?_
    refine f_X3_161 (pc' := 29) C (X.hm hh) dX3_dropAllOf_26 (by first | assumption | exact rfl | exact al13 rfl | exact Nat.le_of_ble_eq_true rfl) rfl ?_
    refine g_aload_n (pc' := 30) C dX3_dropAllOf_29 rfl rfl ?_
    refine g_acmp_ne2 (tgt := 65) (pc' := 33) C (by first | assumption | exact rfl | exact al13 rfl | exact Nat.le_of_ble_eq_true rfl) (by first | assumption | exact rfl | exact al13 rfl | exact Nat.le_of_ble_eq_true rfl) dX3_dropAllOf_30 (by decide) rfl (fun c2 => ?_) (fun c2 => ?_)
    ·
      refine g_iinc (pc' := 68) C dX3_dropAllOf_65 rfl (ii1 _) rfl rfl ?_
      refine g_goto (tgt := 4) C dX3_dropAllOf_68 (by decide) ?_
      refine G_pick [0, 1, 2, 3] rfl (ih (h + 1) _ _ _ _ (by first | exact X | exact XI.upI (X.lvR hh) _ (by omega) (by omega) (by omega) | exact XI.upI X _ (by omega) (by omega) (by omega)) (by rw [ex3]; exact nI_1 h) (by omega) ?_)
      try simp [c3] at c4
      simpa [daL, daS, c1, c2] using hpost
    ·
      refine g_aload (pc' := 35) C dX3_dropAllOf_33 rfl rfl ?_
      refine f_X3_178 (pc' := 38) C dX3_dropAllOf_35 (by first | assumption | exact rfl | exact al13 rfl | exact Nat.le_of_ble_eq_true rfl) rfl ?_
      refine g_if_ne (tgt := 65) (pc' := 41) C dX3_dropAllOf_38 (by decide) rfl (fun c3 => ?_) (fun c3 => ?_)
      ·
        refine g_iinc (pc' := 68) C dX3_dropAllOf_65 rfl (ii1 _) rfl rfl ?_
        refine g_goto (tgt := 4) C dX3_dropAllOf_68 (by decide) ?_
        refine G_pick [0, 1, 2, 3] rfl (ih (h + 1) _ _ _ _ (by first | exact X | exact XI.upI (X.lvR hh) _ (by omega) (by omega) (by omega) | exact XI.upI X _ (by omega) (by omega) (by omega)) (by rw [ex3]; exact nI_1 h) (by omega) ?_)
        try simp [c3] at c4
        simpa [daL, daS, c1, c2, c3] using hpost
      ·
        refine g_aload_n (pc' := 42) C dX3_dropAllOf_41 rfl rfl ?_
        refine g_aload (pc' := 44) C dX3_dropAllOf_42 rfl rfl ?_
        refine k_X3_157 (pc' := 47) C (m_X3_isToBegin hh) dX3_dropAllOf_44 (by first | assumption | exact rfl | exact al13 rfl | exact Nat.le_of_ble_eq_true rfl) ⟨⟨Nat.le_of_ble_eq_true rfl, Nat.le_of_ble_eq_true rfl⟩, rfl, rfl⟩ (Nat.le_of_ble_eq_true rfl) ⟨Nat.zero_le _, Nat.zero_le _⟩ rfl ?_
        refine g_if_eq (tgt := 56) (pc' := 50) C dX3_dropAllOf_47 (by decide) rfl (fun c4 => ?_) (fun c4 => ?_)
        ·
          have c4 := b2_0.mp c4
          refine g_aload (pc' := 58) C dX3_dropAllOf_56 rfl rfl ?_
          refine g_iconst (v := 3) (pc' := 59) C dX3_dropAllOf_58 (by decide) rfl ?_
          refine p_X3_178 (pc' := 62) C dX3_dropAllOf_59 (by first | assumption | exact rfl | exact al13 rfl | exact Nat.le_of_ble_eq_true rfl) rfl ?_
          refine g_iinc (pc' := 65) C dX3_dropAllOf_62 rfl (ii1 _) rfl rfl ?_
          refine g_iinc (pc' := 68) C dX3_dropAllOf_65 rfl (ii1 _) rfl rfl ?_
          refine g_goto (tgt := 4) C dX3_dropAllOf_68 (by decide) ?_
          refine G_pick [0, 1, 2, 3] rfl (ih (h + 1) _ _ _ _ (by first | exact X | exact XI.upI (X.lvR hh) _ (by omega) (by omega) (by omega) | exact XI.upI X _ (by omega) (by omega) (by omega)) (by rw [ex3]; exact nI_1 h) (by omega) ?_)
          try simp [c3] at c4
          simpa [daL, daS, c1, c2, c3, c4] using hpost
        ·
          have c4 := b2_1.mp c4
          refine g_aload_n (pc' := 51) C dX3_dropAllOf_50 rfl rfl ?_
          refine g_aload (pc' := 53) C dX3_dropAllOf_51 rfl rfl ?_
          refine k_X3_170 (pc' := 56) C (m_X3_leave X hh) dX3_dropAllOf_53 (by first | assumption | exact rfl | exact al13 rfl | exact Nat.le_of_ble_eq_true rfl) ⟨⟨Nat.le_of_ble_eq_true rfl, Nat.le_of_ble_eq_true rfl⟩, rfl, rfl⟩ (Nat.le_of_ble_eq_true rfl) ⟨Nat.zero_le _, Nat.zero_le _⟩ rfl ?_
          refine g_aload (pc' := 58) C dX3_dropAllOf_56 rfl rfl ?_
          refine g_iconst (v := 3) (pc' := 59) C dX3_dropAllOf_58 (by decide) rfl ?_
          refine p_X3_178 (pc' := 62) C dX3_dropAllOf_59 (by first | assumption | exact rfl | exact al13 rfl | exact Nat.le_of_ble_eq_true rfl) rfl ?_
          refine g_iinc (pc' := 65) C dX3_dropAllOf_62 rfl (ii1 _) rfl rfl ?_
          refine g_iinc (pc' := 68) C dX3_dropAllOf_65 rfl (ii1 _) rfl rfl ?_
          refine g_goto (tgt := 4) C dX3_dropAllOf_68 (by decide) ?_
          refine G_pick [0, 1, 2, 3] rfl (ih (h + 1) _ _ _ _ (by first | exact X | exact XI.upI (X.lvR hh) _ (by omega) (by omega) (by omega) | exact XI.upI X _ (by omega) (by omega) (by omega)) (by rw [ex3]; exact nI_1 h) (by omega) ?_)
          try simp [c3] at c4
          simpa [daL, daS, c1, c2, c3, c4] using hpost
set_option maxRecDepth 20000 in
theorem m_X3_dropAllOf {l : Launch} {g : wG} {z : wZ} {I : wI} {P : wP} {O : wO} {m : Nat} (X : XI z I P) (hm2 : wAl z 2 m) : RT l yX3_dropAllOf cX3_dropAllOf 5 ((some .int)) { frames := 3, cells := 0, slots := 0, locals := 67 } g z [.ref (g.2.2 0 0), .ref (g.2.2 2 m)] I P O (dp (some (.int (daL m z.2 0 (I, P, 0)).2.2)) ((daL m z.2 0 (I, P, 0)).1) ((daL m z.2 0 (I, P, 0)).2.1)) := by
  refine RT.of (own := RX3) rfl (by decide +kernel) (Nat.le_of_ble_eq_true rfl) rfl (fun K C hl hg hR => ?_)
  subst hl
  subst hg
  refine g_iconst (v := 0) (pc' := 1) C dX3_dropAllOf_0 (by decide) rfl ?_
  refine g_istore_n (pc' := 2) C dX3_dropAllOf_1 rfl rfl ?_
  refine g_iconst (v := 0) (pc' := 3) C dX3_dropAllOf_2 (by decide) rfl ?_
  refine g_istore_n (pc' := 4) C dX3_dropAllOf_3 rfl rfl ?_
  exact l_X3_dropAllOf C hR hm2 z.2 0 0 0 I P X nI_0.symm (by omega) ⟨rfl, rfl, rfl⟩
end WPut
end
section
section WModel
theorem thv (I : wI) (v : Int32) : upI I 12 0 0 v 12 0 0 = v := by rw [upI_at]; simp
def inR (x lo hi : Int32) : Bool := !decide (x < lo) && !decide (hi < x)
def mm (I : wI) (h : Nat) : Nat := (I 13 15 h).toNatClampNeg
def mh (I : wI) (h : Nat) : Nat := (I 13 19 h).toNatClampNeg
def mf (I : wI) (m : Nat) : Nat := (I 13 8 m).toNatClampNeg
def mfr (I : wI) (h : Nat) : Nat := (I 13 18 h).toNatClampNeg
def msp (I : wI) (h : Nat) : Nat := (I 13 17 h).toNatClampNeg
def mpy (I : wI) (q : Nat) : Nat := (I 13 22 q).toNatClampNeg
/-- the numbers of the other side: M things, N meetings -/
def MI (M N : Nat) (I : wI) : Prop := M ≤ 12 ∧ N ≤ 24 ∧ I 12 0 5 = nI M ∧ I 12 0 13 = nI N ∧ (∀ h, h < N → I 13 15 h = nI (mm I h) ∧ mm I h < M) ∧ (∀ h, h < N → I 13 19 h = nI (mh I h) ∧ mh I h ≤ 4) ∧ (∀ h, h < N → I 13 17 h = -1 ∨ (I 13 17 h = nI (msp I h) ∧ msp I h < 4)) ∧ (∀ h, h < N → I 13 18 h = nI (mfr I h) ∧ mfr I h ≤ 999) ∧ (∀ m, m < M → I 13 8 m = nI (mf I m) ∧ mf I m < 6) ∧ (∀ q, q < 4016 → I 13 22 q = nI (mpy I q) ∧ mpy I q ≤ M)
theorem MI.mt {M N : Nat} {I : wI} (X : MI M N I) {h : Nat} (hh : h < N) : I 13 15 h = nI (mm I h) := (X.2.2.2.2.1 h hh).1
theorem MI.mt2 {M N : Nat} {I : wI} (X : MI M N I) {h : Nat} (hh : h < N) : mm I h < 12 := by have := (X.2.2.2.2.1 h hh).2; have := X.1; omega
theorem MI.mtM {M N : Nat} {I : wI} (X : MI M N I) {h : Nat} (hh : h < N) : mm I h < M := (X.2.2.2.2.1 h hh).2
theorem MI.hr {M N : Nat} {I : wI} (X : MI M N I) {h : Nat} (hh : h < N) : I 13 19 h = nI (mh I h) := (X.2.2.2.2.2.1 h hh).1
theorem MI.hr4 {M N : Nat} {I : wI} (X : MI M N I) {h : Nat} (hh : h < N) : mh I h ≤ 4 := (X.2.2.2.2.2.1 h hh).2
theorem MI.sp {M N : Nat} {I : wI} (X : MI M N I) {h : Nat} (hh : h < N) : I 13 17 h = -1 ∨ (I 13 17 h = nI (msp I h) ∧ msp I h < 4) := X.2.2.2.2.2.2.1 h hh
theorem MI.fr {M N : Nat} {I : wI} (X : MI M N I) {h : Nat} (hh : h < N) : I 13 18 h = nI (mfr I h) ∧ mfr I h ≤ 999 := X.2.2.2.2.2.2.2.1 h hh
theorem MI.fs {M N : Nat} {I : wI} (X : MI M N I) {m : Nat} (hm : m < M) : I 13 8 m = nI (mf I m) ∧ mf I m < 6 := X.2.2.2.2.2.2.2.2.1 m hm
theorem MI.py {M N : Nat} {I : wI} (X : MI M N I) {q : Nat} (hq : q < 4016) : I 13 22 q = nI (mpy I q) ∧ mpy I q ≤ M := X.2.2.2.2.2.2.2.2.2 q hq
theorem MI.of {M N : Nat} {I I' : wI} (X : MI M N I) (h5 : I' 12 0 5 = I 12 0 5) (h13 : I' 12 0 13 = I 12 0 13) (hr : ∀ f, f = 15 ∨ f = 19 ∨ f = 17 ∨ f = 18 ∨ f = 8 → I' 13 f = I 13 f) (hp : ∀ q, q < 4016 → ∃ p, p ≤ M ∧ I' 13 22 q = nI p) : MI M N I' := by
  obtain ⟨a, b, c, d, e, f, g, h, i, j⟩ := X
  refine ⟨a, b, h5.trans c, h13.trans d, ?_, ?_, ?_, ?_, ?_, fun q hq => ?_⟩
  · unfold mm; rw [hr 15 (by omega)]; exact e
  · unfold mh; rw [hr 19 (by omega)]; exact f
  · unfold msp; rw [hr 17 (by omega)]; exact g
  · unfold mfr; rw [hr 18 (by omega)]; exact h
  · unfold mf; rw [hr 8 (by omega)]; exact i
  · obtain ⟨p, h1, h2⟩ := hp q hq
    unfold mpy
    rw [h2, nI_clamp (by omega)]
    exact ⟨rfl, h1⟩
theorem MI.up {M N : Nat} {I : wI} (X : MI M N I) {k j c : Nat} (v : Int32) (h : (k = 12 ∧ c ≠ 5 ∧ c ≠ 13) ∨ (k = 13 ∧ j ≠ 15 ∧ j ≠ 19 ∧ j ≠ 17 ∧ j ≠ 18 ∧ j ≠ 8 ∧ j ≠ 22) ∨ k < 12) : MI M N (upI I k j c v) := X.of (by rw [upI_at, if_neg (by omega)]) (by rw [upI_at, if_neg (by omega)]) (fun f hf => upI_off I v (by omega)) (fun q hq => ⟨mpy I q, (X.py hq).2, by rw [upI_at, if_neg (by omega)]; exact (X.py hq).1⟩)
theorem MI.up22 {M N : Nat} {I : wI} (X : MI M N I) {c p : Nat} (hp : p ≤ M) {v : Int32} (hv : v = nI p) : MI M N (upI I 13 22 c v) := X.of (by rw [upI_at, if_neg (by omega)]) (by rw [upI_at, if_neg (by omega)]) (fun f hf => upI_off I v (by omega)) (fun q hq => by
  rw [upI_at]
  split
  · exact ⟨p, hp, hv⟩
  · exact ⟨mpy I q, (X.py hq).2, (X.py hq).1⟩)
theorem nI_m1 (M : Nat) (h : M < 2 ^ 30) : (nI M - 1).toInt = (M : Int) - 1 := by
  have := pk_sub_toInt (a := M) (b := 1) h (by omega)
  exact this
theorem inR_T {j M : Nat} (hj : j < M) (hM : M < 2 ^ 30) : inR (nI j) 0 (nI M - 1) = true := by
  have h1 : ¬ nI j < 0 := nI_pos (by omega)
  have h2 : ¬ nI M - 1 < nI j := by rw [Int32.lt_iff_toInt_lt, nI_m1 M hM, nI_toInt (by omega)]; omega
  simp [inR, h1, h2]
theorem inR_F {x : Int32} {M : Nat} (h : x < 0 ∨ nI M ≤ x) (hM : M < 2 ^ 30) : inR x 0 (nI M - 1) = false := by
  by_cases h0 : x < 0
  · simp [inR, h0]
  · have h1 := h.resolve_left h0
    have h2 : nI M - 1 < x := by
      rw [Int32.le_iff_toInt_le, nI_toInt (by omega)] at h1
      rw [Int32.lt_iff_toInt_lt, nI_m1 M hM]; omega
    simp [inR, h0, h2]
def mOp (I : wI) (m : Nat) : Bool := isOp (I 13 6 m)
def mt4 (a many b more : Int32) : Bool := !decide (b + more ≤ a) && !decide (a + many ≤ b)
def mFit (I : wI) (m : Nat) (who : Int32) : Bool := if I 13 10 m = -1 then decide (who = -1) else (!decide (who = -1)) && decide ((I 13 2 who.toNatClampNeg >>> (I 13 10 m &&& 31)) &&& 1 = 1)
def mSame (I : wI) (what : Int32) (m : Nat) (wh who : Int32) (h : Nat) : Bool := if what = 1 then decide (I 13 16 h = wh) else if what = 2 then decide (I 13 7 (mm I h) = I 13 7 m) else if what = 3 then decide (I 13 8 (mm I h) = I 13 8 m ∨ I 13 8 (mm I h) = I 13 9 m ∨ I 13 9 (mm I h) = I 13 8 m ∨ I 13 9 (mm I h) = I 13 9 m) else decide (¬ who = -1 ∧ I 13 17 h = who)
def mClS (I : wI) (what : Int32) (m : Nat) (wh who at1 many but : Int32) (h : Nat) (b : Bool) : Bool := b || (!decide (nI h = but) && (decide (I 13 14 h = 0) && (mSame I what m wh who h && mt4 (I 13 18 h) (I 13 19 h) at1 many)))
def mClL (I : wI) (what : Int32) (m : Nat) (wh who at1 many but : Int32) : Nat → Nat → Bool → Bool
  | 0, _, b => b
  | n + 1, h, b => mClL I what m wh who at1 many but n (h + 1) (mClS I what m wh who at1 many but h b)
def mRe (I : wI) (N m : Nat) (wh who at1 many but : Int32) : Int32 := if mClL I 1 m wh who at1 many but N 0 false = true then 1 else if mClL I 2 m wh who at1 many but N 0 false = true then 2 else if mClL I 3 m wh who at1 many but N 0 false = true then 3 else if mClL I 4 m wh who at1 many but N 0 false = true then 4 else 0
set_option maxRecDepth 20000 in
theorem m_X4_thrown {l : Launch} {g : wG} {z : wZ} {I : wI} {P : wP} {O : wO} : RT l yX4_thrown cX4_thrown 1 ((some .int)) { frames := 0, cells := 0, slots := 0, locals := 0 } g z [.ref (g.2.2 12 0)] I P O (dp (some (.int (I 12 0 0))) (I) (P)) := by
  refine RT.of (own := RX4) rfl (by decide +kernel) (Nat.le_of_ble_eq_true rfl) rfl (fun K C hl hg hR => ?_)
  subst hl
  subst hg
  refine g_aload_n (pc' := 1) C dX4_thrown_0 rfl rfl ?_
  refine f_X4_71 (pc' := 4) C dX4_thrown_1 (by first | assumption | exact rfl | exact al13 rfl | exact Nat.le_of_ble_eq_true rfl) rfl ?_
  exact g_iret C hR dX4_thrown_4 ⟨rfl, rfl, rfl⟩
set_option maxRecDepth 20000 in
theorem m_X4_in {l : Launch} {g : wG} {z : wZ} {I : wI} {P : wP} {O : wO} {x y w : Int32} : RT l yX4_in cX4_in 3 ((some .boolean)) { frames := 0, cells := 0, slots := 0, locals := 0 } g z [.int x, .int y, .int w] I P O (dp (some (.int (b2 (inR x y w)))) (I) (P)) := by
  refine RT.of (own := RX4) rfl (by decide +kernel) (Nat.le_of_ble_eq_true rfl) rfl (fun K C hl hg hR => ?_)
  subst hl
  subst hg
  refine g_iload_n (pc' := 1) C dX4_in_0 rfl rfl ?_
  refine g_iload_n (pc' := 2) C dX4_in_1 rfl rfl ?_
  refine g_icmp_lt (tgt := 14) (pc' := 5) C dX4_in_2 (by decide) rfl (fun c1 => ?_) (fun c1 => ?_)
  ·
    refine g_iconst (v := 0) (pc' := 15) C dX4_in_14 (by decide) rfl ?_
    exact g_zret C hR dX4_in_15 rfl ⟨by simp [b2, inR, c1], rfl, rfl⟩
  ·
    refine g_iload_n (pc' := 6) C dX4_in_5 rfl rfl ?_
    refine g_iload_n (pc' := 7) C dX4_in_6 rfl rfl ?_
    refine g_icmp_gt (tgt := 14) (pc' := 10) C dX4_in_7 (by decide) rfl (fun c2 => ?_) (fun c2 => ?_)
    ·
      refine g_iconst (v := 0) (pc' := 15) C dX4_in_14 (by decide) rfl ?_
      exact g_zret C hR dX4_in_15 rfl ⟨by simp [b2, inR, c1, c2], rfl, rfl⟩
    ·
      refine g_iconst (v := 1) (pc' := 11) C dX4_in_10 (by decide) rfl ?_
      refine g_goto (tgt := 15) C dX4_in_11 (by decide) ?_
      exact g_zret C hR dX4_in_15 rfl ⟨by simp [b2, inR, c1, c2], rfl, rfl⟩
set_option maxRecDepth 20000 in
theorem m_X4_isMatterS {l : Launch} {g : wG} {z : wZ} {I : wI} {P : wP} {O : wO} {M N j : Nat} {x : Int32} (X : MI M N I) (hj : x = nI j) (hjM : j < M) : RT l yX4_isMatter cX4_isMatter 2 ((some .boolean)) { frames := 1, cells := 0, slots := 0, locals := 22 } g z [.ref (g.2.2 12 0), .int x] I P O (dp (some (.int 1)) (I) (P)) := by
  refine RT.of (own := RX4) rfl (by decide +kernel) (Nat.le_of_ble_eq_true rfl) rfl (fun K C hl hg hR => ?_)
  subst hl
  subst hg
  refine g_iload_n (pc' := 1) C dX4_isMatter_0 rfl rfl ?_
  refine g_iconst (v := 0) (pc' := 2) C dX4_isMatter_1 (by decide) rfl ?_
  refine g_aload_n (pc' := 3) C dX4_isMatter_2 rfl rfl ?_
  refine f_X4_75 (pc' := 6) C dX4_isMatter_3 (by first | assumption | exact rfl | exact al13 rfl | exact Nat.le_of_ble_eq_true rfl) rfl ?_
  refine g_iconst (v := 1) (pc' := 7) C dX4_isMatter_6 (by decide) rfl ?_
  refine g_isub (pc' := 8) C dX4_isMatter_7 rfl ?_
  refine k_X4_78 (pc' := 11) C (m_X4_in) dX4_isMatter_8 ⟨⟨Nat.le_of_ble_eq_true rfl, Nat.le_of_ble_eq_true rfl⟩, rfl, rfl⟩ (Nat.le_of_ble_eq_true rfl) ⟨Nat.zero_le _, Nat.zero_le _⟩ rfl ?_
  exact g_zret C hR dX4_isMatter_11 (b2_n _) ⟨by rw [X.2.2.1, hj, inR_T hjM (by have := X.1; have := X.2.1; omega)]; rfl, rfl, rfl⟩
set_option maxRecDepth 20000 in
theorem m_X4_isMatterN {l : Launch} {g : wG} {z : wZ} {I : wI} {P : wP} {O : wO} {M N : Nat} {x : Int32} (X : MI M N I) (h : x < 0 ∨ nI M ≤ x) : RT l yX4_isMatter cX4_isMatter 2 ((some .boolean)) { frames := 1, cells := 0, slots := 0, locals := 22 } g z [.ref (g.2.2 12 0), .int x] I P O (dp (some (.int 0)) (I) (P)) := by
  refine RT.of (own := RX4) rfl (by decide +kernel) (Nat.le_of_ble_eq_true rfl) rfl (fun K C hl hg hR => ?_)
  subst hl
  subst hg
  refine g_iload_n (pc' := 1) C dX4_isMatter_0 rfl rfl ?_
  refine g_iconst (v := 0) (pc' := 2) C dX4_isMatter_1 (by decide) rfl ?_
  refine g_aload_n (pc' := 3) C dX4_isMatter_2 rfl rfl ?_
  refine f_X4_75 (pc' := 6) C dX4_isMatter_3 (by first | assumption | exact rfl | exact al13 rfl | exact Nat.le_of_ble_eq_true rfl) rfl ?_
  refine g_iconst (v := 1) (pc' := 7) C dX4_isMatter_6 (by decide) rfl ?_
  refine g_isub (pc' := 8) C dX4_isMatter_7 rfl ?_
  refine k_X4_78 (pc' := 11) C (m_X4_in) dX4_isMatter_8 ⟨⟨Nat.le_of_ble_eq_true rfl, Nat.le_of_ble_eq_true rfl⟩, rfl, rfl⟩ (Nat.le_of_ble_eq_true rfl) ⟨Nat.zero_le _, Nat.zero_le _⟩ rfl ?_
  exact g_zret C hR dX4_isMatter_11 (b2_n _) ⟨by rw [X.2.2.1, inR_F h (by have := X.1; have := X.2.1; omega)]; rfl, rfl, rfl⟩
set_option maxRecDepth 20000 in
theorem m_X4_isHearingS {l : Launch} {g : wG} {z : wZ} {I : wI} {P : wP} {O : wO} {M N j : Nat} {x : Int32} (X : MI M N I) (hj : x = nI j) (hjM : j < N) : RT l yX4_isHearing cX4_isHearing 2 ((some .boolean)) { frames := 1, cells := 0, slots := 0, locals := 22 } g z [.ref (g.2.2 12 0), .int x] I P O (dp (some (.int 1)) (I) (P)) := by
  refine RT.of (own := RX4) rfl (by decide +kernel) (Nat.le_of_ble_eq_true rfl) rfl (fun K C hl hg hR => ?_)
  subst hl
  subst hg
  refine g_iload_n (pc' := 1) C dX4_isHearing_0 rfl rfl ?_
  refine g_iconst (v := 0) (pc' := 2) C dX4_isHearing_1 (by decide) rfl ?_
  refine g_aload_n (pc' := 3) C dX4_isHearing_2 rfl rfl ?_
  refine f_X4_82 (pc' := 6) C dX4_isHearing_3 (by first | assumption | exact rfl | exact al13 rfl | exact Nat.le_of_ble_eq_true rfl) rfl ?_
  refine g_iconst (v := 1) (pc' := 7) C dX4_isHearing_6 (by decide) rfl ?_
  refine g_isub (pc' := 8) C dX4_isHearing_7 rfl ?_
  refine k_X4_78 (pc' := 11) C (m_X4_in) dX4_isHearing_8 ⟨⟨Nat.le_of_ble_eq_true rfl, Nat.le_of_ble_eq_true rfl⟩, rfl, rfl⟩ (Nat.le_of_ble_eq_true rfl) ⟨Nat.zero_le _, Nat.zero_le _⟩ rfl ?_
  exact g_zret C hR dX4_isHearing_11 (b2_n _) ⟨by rw [X.2.2.2.1, hj, inR_T hjM (by have := X.1; have := X.2.1; omega)]; rfl, rfl, rfl⟩
set_option maxRecDepth 20000 in
theorem m_X4_isHearingN {l : Launch} {g : wG} {z : wZ} {I : wI} {P : wP} {O : wO} {M N : Nat} {x : Int32} (X : MI M N I) (h : x < 0 ∨ nI N ≤ x) : RT l yX4_isHearing cX4_isHearing 2 ((some .boolean)) { frames := 1, cells := 0, slots := 0, locals := 22 } g z [.ref (g.2.2 12 0), .int x] I P O (dp (some (.int 0)) (I) (P)) := by
  refine RT.of (own := RX4) rfl (by decide +kernel) (Nat.le_of_ble_eq_true rfl) rfl (fun K C hl hg hR => ?_)
  subst hl
  subst hg
  refine g_iload_n (pc' := 1) C dX4_isHearing_0 rfl rfl ?_
  refine g_iconst (v := 0) (pc' := 2) C dX4_isHearing_1 (by decide) rfl ?_
  refine g_aload_n (pc' := 3) C dX4_isHearing_2 rfl rfl ?_
  refine f_X4_82 (pc' := 6) C dX4_isHearing_3 (by first | assumption | exact rfl | exact al13 rfl | exact Nat.le_of_ble_eq_true rfl) rfl ?_
  refine g_iconst (v := 1) (pc' := 7) C dX4_isHearing_6 (by decide) rfl ?_
  refine g_isub (pc' := 8) C dX4_isHearing_7 rfl ?_
  refine k_X4_78 (pc' := 11) C (m_X4_in) dX4_isHearing_8 ⟨⟨Nat.le_of_ble_eq_true rfl, Nat.le_of_ble_eq_true rfl⟩, rfl, rfl⟩ (Nat.le_of_ble_eq_true rfl) ⟨Nat.zero_le _, Nat.zero_le _⟩ rfl ?_
  exact g_zret C hR dX4_isHearing_11 (b2_n _) ⟨by rw [X.2.2.2.1, inR_F h (by have := X.1; have := X.2.1; omega)]; rfl, rfl, rfl⟩
set_option maxRecDepth 20000 in
theorem m_X4_isSpeaker {l : Launch} {g : wG} {z : wZ} {I : wI} {P : wP} {O : wO} {x : Int32} : RT l yX4_isSpeaker cX4_isSpeaker 1 ((some .boolean)) { frames := 1, cells := 0, slots := 0, locals := 22 } g z [.int x] I P O (dp (some (.int (b2 (inR x (-1) 3)))) (I) (P)) := by
  refine RT.of (own := RX4) rfl (by decide +kernel) (Nat.le_of_ble_eq_true rfl) rfl (fun K C hl hg hR => ?_)
  subst hl
  subst hg
  refine g_iload_n (pc' := 1) C dX4_isSpeaker_0 rfl rfl ?_
  refine g_iconst (v := (-1)) (pc' := 2) C dX4_isSpeaker_1 (by decide) rfl ?_
  refine g_iconst (v := 3) (pc' := 3) C dX4_isSpeaker_2 (by decide) rfl ?_
  refine k_X4_78 (pc' := 6) C (m_X4_in) dX4_isSpeaker_3 ⟨⟨Nat.le_of_ble_eq_true rfl, Nat.le_of_ble_eq_true rfl⟩, rfl, rfl⟩ (Nat.le_of_ble_eq_true rfl) ⟨Nat.zero_le _, Nat.zero_le _⟩ rfl ?_
  exact g_zret C hR dX4_isSpeaker_6 (b2_n _) ⟨rfl, rfl, rfl⟩
set_option maxRecDepth 20000 in
theorem m_X4_meets {l : Launch} {g : wG} {z : wZ} {I : wI} {P : wP} {O : wO} {x y w v : Int32} : RT l yX4_meets cX4_meets 4 ((some .boolean)) { frames := 0, cells := 0, slots := 0, locals := 0 } g z [.int x, .int y, .int w, .int v] I P O (dp (some (.int (b2 (mt4 x y w v)))) (I) (P)) := by
  refine RT.of (own := RX4) rfl (by decide +kernel) (Nat.le_of_ble_eq_true rfl) rfl (fun K C hl hg hR => ?_)
  subst hl
  subst hg
  refine g_iload_n (pc' := 1) C dX4_meets_0 rfl rfl ?_
  refine g_iload_n (pc' := 2) C dX4_meets_1 rfl rfl ?_
  refine g_iload_n (pc' := 3) C dX4_meets_2 rfl rfl ?_
  refine g_iadd (pc' := 4) C dX4_meets_3 rfl ?_
  refine g_icmp_ge (tgt := 18) (pc' := 7) C dX4_meets_4 (by decide) rfl (fun c1 => ?_) (fun c1 => ?_)
  ·
    refine g_iconst (v := 0) (pc' := 19) C dX4_meets_18 (by decide) rfl ?_
    exact g_zret C hR dX4_meets_19 rfl ⟨by simp [b2, mt4, c1], rfl, rfl⟩
  ·
    refine g_iload_n (pc' := 8) C dX4_meets_7 rfl rfl ?_
    refine g_iload_n (pc' := 9) C dX4_meets_8 rfl rfl ?_
    refine g_iload_n (pc' := 10) C dX4_meets_9 rfl rfl ?_
    refine g_iadd (pc' := 11) C dX4_meets_10 rfl ?_
    refine g_icmp_ge (tgt := 18) (pc' := 14) C dX4_meets_11 (by decide) rfl (fun c2 => ?_) (fun c2 => ?_)
    ·
      refine g_iconst (v := 0) (pc' := 19) C dX4_meets_18 (by decide) rfl ?_
      exact g_zret C hR dX4_meets_19 rfl ⟨by simp [b2, mt4, c1, c2], rfl, rfl⟩
    ·
      refine g_iconst (v := 1) (pc' := 15) C dX4_meets_14 (by decide) rfl ?_
      refine g_goto (tgt := 19) C dX4_meets_15 (by decide) ?_
      exact g_zret C hR dX4_meets_19 rfl ⟨by simp [b2, mt4, c1, c2], rfl, rfl⟩
set_option maxRecDepth 20000 in
theorem m_X4_isOpen {l : Launch} {g : wG} {z : wZ} {I : wI} {P : wP} {O : wO} {m : Nat} {x : Int32} (hx : x = nI m) (hm : m < 12) : RT l yX4_isOpen cX4_isOpen 2 ((some .boolean)) { frames := 0, cells := 0, slots := 0, locals := 0 } g z [.ref (g.2.2 12 0), .int x] I P O (dp (some (.int (b2 (mOp I m)))) (I) (P)) := by
  refine RT.of (own := RX4) rfl (by decide +kernel) (Nat.le_of_ble_eq_true rfl) rfl (fun K C hl hg hR => ?_)
  subst hl
  subst hg
  refine g_aload_n (pc' := 1) C dX4_isOpen_0 rfl rfl ?_
  refine f_X4_20 (pc' := 4) C dX4_isOpen_1 (by first | assumption | exact rfl | exact al13 rfl | exact Nat.le_of_ble_eq_true rfl) rfl ?_
  refine g_iload_n (pc' := 5) C dX4_isOpen_4 rfl rfl ?_
  refine g_iald (pc' := 6) C (m) hx hm dX4_isOpen_5 (by first | assumption | exact rfl | exact al13 rfl | exact Nat.le_of_ble_eq_true rfl) rfl rfl rfl ?_
  refine g_if_eq (tgt := 19) (pc' := 9) C dX4_isOpen_6 (by decide) rfl (fun c1 => ?_) (fun c1 => ?_)
  ·
    refine g_iconst (v := 1) (pc' := 20) C dX4_isOpen_19 (by decide) rfl ?_
    refine g_goto (tgt := 24) C dX4_isOpen_20 (by decide) ?_
    exact g_zret C hR dX4_isOpen_24 rfl ⟨by simp [b2, mOp, isOp, c1], rfl, rfl⟩
  ·
    refine g_aload_n (pc' := 10) C dX4_isOpen_9 rfl rfl ?_
    refine f_X4_20 (pc' := 13) C dX4_isOpen_10 (by first | assumption | exact rfl | exact al13 rfl | exact Nat.le_of_ble_eq_true rfl) rfl ?_
    refine g_iload_n (pc' := 14) C dX4_isOpen_13 rfl rfl ?_
    refine g_iald (pc' := 15) C (m) hx hm dX4_isOpen_14 (by first | assumption | exact rfl | exact al13 rfl | exact Nat.le_of_ble_eq_true rfl) rfl rfl rfl ?_
    refine g_iconst (v := 1) (pc' := 16) C dX4_isOpen_15 (by decide) rfl ?_
    refine g_icmp_ne (tgt := 23) (pc' := 19) C dX4_isOpen_16 (by decide) rfl (fun c2 => ?_) (fun c2 => ?_)
    ·
      refine g_iconst (v := 0) (pc' := 24) C dX4_isOpen_23 (by decide) rfl ?_
      exact g_zret C hR dX4_isOpen_24 rfl ⟨by simp [b2, mOp, isOp, c1, c2], rfl, rfl⟩
    ·
      refine g_iconst (v := 1) (pc' := 20) C dX4_isOpen_19 (by decide) rfl ?_
      refine g_goto (tgt := 24) C dX4_isOpen_20 (by decide) ?_
      exact g_zret C hR dX4_isOpen_24 rfl ⟨by simp [b2, mOp, isOp, c1, c2], rfl, rfl⟩
set_option maxRecDepth 20000 in
theorem m_X4_fits {l : Launch} {g : wG} {z : wZ} {I : wI} {P : wP} {O : wO} {m : Nat} {x y : Int32} (hx : x = nI m) (hm : m < 12) (hy : y = -1 ∨ ∃ s, s < 4 ∧ y = nI s) : RT l yX4_fits cX4_fits 3 ((some .boolean)) { frames := 0, cells := 0, slots := 0, locals := 0 } g z [.ref (g.2.2 12 0), .int x, .int y] I P O (dp (some (.int (b2 (mFit I m y)))) (I) (P)) := by
  refine RT.of (own := RX4) rfl (by decide +kernel) (Nat.le_of_ble_eq_true rfl) rfl (fun K C hl hg hR => ?_)
  subst hl
  subst hg
  refine g_aload_n (pc' := 1) C dX4_fits_0 rfl rfl ?_
  refine f_X4_32 (pc' := 4) C dX4_fits_1 (by first | assumption | exact rfl | exact al13 rfl | exact Nat.le_of_ble_eq_true rfl) rfl ?_
  refine g_iload_n (pc' := 5) C dX4_fits_4 rfl rfl ?_
  refine g_iald (pc' := 6) C (m) hx hm dX4_fits_5 (by first | assumption | exact rfl | exact al13 rfl | exact Nat.le_of_ble_eq_true rfl) rfl rfl rfl ?_
  refine g_iconst (v := (-1)) (pc' := 7) C dX4_fits_6 (by decide) rfl ?_
  refine g_icmp_ne (tgt := 23) (pc' := 10) C dX4_fits_7 (by decide) rfl (fun c1 => ?_) (fun c1 => ?_)
  ·
    refine g_iload_n (pc' := 24) C dX4_fits_23 rfl rfl ?_
    refine g_iconst (v := (-1)) (pc' := 25) C dX4_fits_24 (by decide) rfl ?_
    refine g_icmp_eq (tgt := 51) (pc' := 28) C dX4_fits_25 (by decide) rfl (fun c2 => ?_) (fun c2 => ?_)
    ·
      refine g_iconst (v := 0) (pc' := 52) C dX4_fits_51 (by decide) rfl ?_
      exact g_zret C hR dX4_fits_52 rfl ⟨by simp [b2, mFit, c1, c2], rfl, rfl⟩
    ·
      obtain ⟨s, hs4, hs⟩ := hy.resolve_left c2
      have hcl : y.toNatClampNeg = s := by rw [hs]; exact nI_clamp (by omega)
      refine g_aload_n (pc' := 29) C dX4_fits_28 rfl rfl ?_
      refine f_X4_7 (pc' := 32) C dX4_fits_29 (by first | assumption | exact rfl | exact al13 rfl | exact Nat.le_of_ble_eq_true rfl) rfl ?_
      refine g_iload_n (pc' := 33) C dX4_fits_32 rfl rfl ?_
      refine g_iald (pc' := 34) C (s) hs hs4 dX4_fits_33 (by first | assumption | exact rfl | exact al13 rfl | exact Nat.le_of_ble_eq_true rfl) rfl rfl rfl ?_
      refine g_aload_n (pc' := 35) C dX4_fits_34 rfl rfl ?_
      refine f_X4_32 (pc' := 38) C dX4_fits_35 (by first | assumption | exact rfl | exact al13 rfl | exact Nat.le_of_ble_eq_true rfl) rfl ?_
      refine g_iload_n (pc' := 39) C dX4_fits_38 rfl rfl ?_
      refine g_iald (pc' := 40) C (m) hx hm dX4_fits_39 (by first | assumption | exact rfl | exact al13 rfl | exact Nat.le_of_ble_eq_true rfl) rfl rfl rfl ?_
      refine g_ishr (pc' := 41) C dX4_fits_40 rfl ?_
      refine g_iconst (v := 1) (pc' := 42) C dX4_fits_41 (by decide) rfl ?_
      refine g_iand (pc' := 43) C dX4_fits_42 rfl ?_
      refine g_iconst (v := 1) (pc' := 44) C dX4_fits_43 (by decide) rfl ?_
      refine g_icmp_ne (tgt := 51) (pc' := 47) C dX4_fits_44 (by decide) rfl (fun c3 => ?_) (fun c3 => ?_)
      ·
        refine g_iconst (v := 0) (pc' := 52) C dX4_fits_51 (by decide) rfl ?_
        exact g_zret C hR dX4_fits_52 rfl ⟨by simp [b2, mFit, c1, c2, hcl, c3], rfl, rfl⟩
      ·
        refine g_iconst (v := 1) (pc' := 48) C dX4_fits_47 (by decide) rfl ?_
        refine g_goto (tgt := 52) C dX4_fits_48 (by decide) ?_
        exact g_zret C hR dX4_fits_52 rfl ⟨by simp [b2, mFit, c1, c2, hcl, c3], rfl, rfl⟩
  ·
    refine g_iload_n (pc' := 11) C dX4_fits_10 rfl rfl ?_
    refine g_iconst (v := (-1)) (pc' := 12) C dX4_fits_11 (by decide) rfl ?_
    refine g_icmp_ne (tgt := 19) (pc' := 15) C dX4_fits_12 (by decide) rfl (fun c4 => ?_) (fun c4 => ?_)
    ·
      refine g_iconst (v := 0) (pc' := 20) C dX4_fits_19 (by decide) rfl ?_
      refine g_goto (tgt := 52) C dX4_fits_20 (by decide) ?_
      exact g_zret C hR dX4_fits_52 rfl ⟨by simp [b2, mFit, c1, c4], rfl, rfl⟩
    ·
      refine g_iconst (v := 1) (pc' := 16) C dX4_fits_15 (by decide) rfl ?_
      refine g_goto (tgt := 52) C dX4_fits_16 (by decide) ?_
      exact g_zret C hR dX4_fits_52 rfl ⟨by simp [b2, mFit, c1, c4], rfl, rfl⟩
set_option maxRecDepth 20000 in
theorem l_X4_clashes {K : wK} {z : wZ} {P : wP} {O : wO} {post : Option Value → wI → wP → Prop} {I : wI} {M N m : Nat} {what x wh who at1 many but : Int32} (C : Cx K cX4_clashes RX4 12 ((some .boolean)) { frames := 1, cells := 0, slots := 0, locals := 23 } z) (hR : Rx K z O post) (X : MI M N I) (hx : x = nI m) (hm : m < 12) : ∀ (n h : Nat) (b : Bool) (x8 x9 : Int32), x8 = b2 b → x9 = nI h → h + n = N → post (some (.int (b2 (mClL I what m wh who at1 many but n h b)))) I P → G K z I P O 0 0 6 [(0, .ref ((Kg K).2.2 12 0)), (1, .int what), (2, .int x), (3, .int wh), (4, .int who), (5, .int at1), (6, .int many), (7, .int but), (8, .int x8), (9, .int x9)] [] := by
  intro n
  induction n with
  | zero =>
    intro h b x8 x9 ex8 ex9 hk hpost
    subst ex8
    have hNb := X.2.1
    refine g_iload (pc' := 8) C dX4_clashes_6 rfl rfl ?_
    refine g_aload_n (pc' := 9) C dX4_clashes_8 rfl rfl ?_
    refine f_X4_82 (pc' := 12) C dX4_clashes_9 (by first | assumption | exact rfl | exact al13 rfl | exact Nat.le_of_ble_eq_true rfl) rfl ?_
    refine g_icmp_ge (tgt := 243) (pc' := 15) C dX4_clashes_12 (by decide) rfl (fun c1 => ?_) (fun c1 => absurd (by rw [ex9, X.2.2.2.1, show h = N by omega]; exact Int32.le_refl _) c1)
    refine g_iload (pc' := 245) C dX4_clashes_243 rfl rfl ?_
    exact g_zret C hR dX4_clashes_245 (b2_n _) hpost
  | succ n ih =>
    intro h b x8 x9 ex8 ex9 hk hpost
    subst ex8
    have hNb := X.2.1
    have hh : h < N := by omega
    have h24 : h < 24 := by omega
    have J : ∀ v : Int32, v = b2 (mSame I what m wh who h) → G K z I P O 0 0 177 [(0, .ref ((Kg K).2.2 12 0)), (1, .int what), (2, .int x), (3, .int wh), (4, .int who), (5, .int at1), (6, .int many), (7, .int but), (8, .int (b2 b)), (9, .int x9), (10, .int (I 13 15 h))] [.int v] := by
      intro v hv
      subst hv
      refine g_istore (pc' := 179) C dX4_clashes_177 rfl rfl ?_
      refine g_iload (pc' := 181) C dX4_clashes_179 rfl rfl ?_
      refine g_if_ne (tgt := 230) (pc' := 184) C dX4_clashes_181 (by decide) rfl (fun c1 => ?_) (fun c1 => ?_)
      ·
        have c1 := b2_1.mp c1
        refine g_iconst (v := 1) (pc' := 231) C dX4_clashes_230 (by decide) rfl ?_
        refine g_goto (tgt := 235) C dX4_clashes_231 (by decide) ?_
        refine g_istore (pc' := 237) C dX4_clashes_235 rfl rfl ?_
        refine g_iinc (pc' := 240) C dX4_clashes_237 rfl (ii1 _) rfl rfl ?_
        refine g_goto (tgt := 6) C dX4_clashes_240 (by decide) ?_
        exact G_pick [0, 1, 2, 3, 4, 5, 6, 7, 8, 9] rfl (ih (h + 1) (mClS I what m wh who at1 many but h b) _ _ (by simp [b2, mClS, ← ex9, c1]) (by rw [ex9]; exact nI_1 h) (by omega) hpost)
      ·
        have c1 := b2_0.mp c1
        refine g_iload (pc' := 186) C dX4_clashes_184 rfl rfl ?_
        refine g_iload (pc' := 188) C dX4_clashes_186 rfl rfl ?_
        refine g_icmp_eq (tgt := 234) (pc' := 191) C dX4_clashes_188 (by decide) rfl (fun c2 => ?_) (fun c2 => ?_)
        ·
          refine g_iconst (v := 0) (pc' := 235) C dX4_clashes_234 (by decide) rfl ?_
          refine g_istore (pc' := 237) C dX4_clashes_235 rfl rfl ?_
          refine g_iinc (pc' := 240) C dX4_clashes_237 rfl (ii1 _) rfl rfl ?_
          refine g_goto (tgt := 6) C dX4_clashes_240 (by decide) ?_
          exact G_pick [0, 1, 2, 3, 4, 5, 6, 7, 8, 9] rfl (ih (h + 1) (mClS I what m wh who at1 many but h b) _ _ (by simp [b2, mClS, ← ex9, c1, c2]) (by rw [ex9]; exact nI_1 h) (by omega) hpost)
        ·
          refine g_aload_n (pc' := 192) C dX4_clashes_191 rfl rfl ?_
          refine f_X4_41 (pc' := 195) C dX4_clashes_192 (by first | assumption | exact rfl | exact al13 rfl | exact Nat.le_of_ble_eq_true rfl) rfl ?_
          refine g_iload (pc' := 197) C dX4_clashes_195 rfl rfl ?_
          refine g_iald (pc' := 198) C (h) ex9 h24 dX4_clashes_197 (by first | assumption | exact rfl | exact al13 rfl | exact Nat.le_of_ble_eq_true rfl) rfl rfl rfl ?_
          refine g_if_ne (tgt := 234) (pc' := 201) C dX4_clashes_198 (by decide) rfl (fun c3 => ?_) (fun c3 => ?_)
          ·
            refine g_iconst (v := 0) (pc' := 235) C dX4_clashes_234 (by decide) rfl ?_
            refine g_istore (pc' := 237) C dX4_clashes_235 rfl rfl ?_
            refine g_iinc (pc' := 240) C dX4_clashes_237 rfl (ii1 _) rfl rfl ?_
            refine g_goto (tgt := 6) C dX4_clashes_240 (by decide) ?_
            exact G_pick [0, 1, 2, 3, 4, 5, 6, 7, 8, 9] rfl (ih (h + 1) (mClS I what m wh who at1 many but h b) _ _ (by simp [b2, mClS, ← ex9, c1, c2, c3]) (by rw [ex9]; exact nI_1 h) (by omega) hpost)
          ·
            refine g_iload (pc' := 203) C dX4_clashes_201 rfl rfl ?_
            refine g_if_eq (tgt := 234) (pc' := 206) C dX4_clashes_203 (by decide) rfl (fun c4 => ?_) (fun c4 => ?_)
            ·
              have c4 := b2_0.mp c4
              refine g_iconst (v := 0) (pc' := 235) C dX4_clashes_234 (by decide) rfl ?_
              refine g_istore (pc' := 237) C dX4_clashes_235 rfl rfl ?_
              refine g_iinc (pc' := 240) C dX4_clashes_237 rfl (ii1 _) rfl rfl ?_
              refine g_goto (tgt := 6) C dX4_clashes_240 (by decide) ?_
              exact G_pick [0, 1, 2, 3, 4, 5, 6, 7, 8, 9] rfl (ih (h + 1) (mClS I what m wh who at1 many but h b) _ _ (by simp [b2, mClS, ← ex9, c1, c2, c3, c4]) (by rw [ex9]; exact nI_1 h) (by omega) hpost)
            ·
              have c4 := b2_1.mp c4
              refine g_aload_n (pc' := 207) C dX4_clashes_206 rfl rfl ?_
              refine f_X4_53 (pc' := 210) C dX4_clashes_207 (by first | assumption | exact rfl | exact al13 rfl | exact Nat.le_of_ble_eq_true rfl) rfl ?_
              refine g_iload (pc' := 212) C dX4_clashes_210 rfl rfl ?_
              refine g_iald (pc' := 213) C (h) ex9 h24 dX4_clashes_212 (by first | assumption | exact rfl | exact al13 rfl | exact Nat.le_of_ble_eq_true rfl) rfl rfl rfl ?_
              refine g_aload_n (pc' := 214) C dX4_clashes_213 rfl rfl ?_
              refine f_X4_56 (pc' := 217) C dX4_clashes_214 (by first | assumption | exact rfl | exact al13 rfl | exact Nat.le_of_ble_eq_true rfl) rfl ?_
              refine g_iload (pc' := 219) C dX4_clashes_217 rfl rfl ?_
              refine g_iald (pc' := 220) C (h) ex9 h24 dX4_clashes_219 (by first | assumption | exact rfl | exact al13 rfl | exact Nat.le_of_ble_eq_true rfl) rfl rfl rfl ?_
              refine g_iload (pc' := 222) C dX4_clashes_220 rfl rfl ?_
              refine g_iload (pc' := 224) C dX4_clashes_222 rfl rfl ?_
              refine k_X4_96 (pc' := 227) C (m_X4_meets) dX4_clashes_224 ⟨⟨Nat.le_of_ble_eq_true rfl, Nat.le_of_ble_eq_true rfl⟩, rfl, rfl⟩ (Nat.le_of_ble_eq_true rfl) ⟨Nat.zero_le _, Nat.zero_le _⟩ rfl ?_
              refine g_if_eq (tgt := 234) (pc' := 230) C dX4_clashes_227 (by decide) rfl (fun c5 => ?_) (fun c5 => ?_)
              ·
                have c5 := b2_0.mp c5
                refine g_iconst (v := 0) (pc' := 235) C dX4_clashes_234 (by decide) rfl ?_
                refine g_istore (pc' := 237) C dX4_clashes_235 rfl rfl ?_
                refine g_iinc (pc' := 240) C dX4_clashes_237 rfl (ii1 _) rfl rfl ?_
                refine g_goto (tgt := 6) C dX4_clashes_240 (by decide) ?_
                exact G_pick [0, 1, 2, 3, 4, 5, 6, 7, 8, 9] rfl (ih (h + 1) (mClS I what m wh who at1 many but h b) _ _ (by simp [b2, mClS, ← ex9, c1, c2, c3, c4, c5]) (by rw [ex9]; exact nI_1 h) (by omega) hpost)
              ·
                have c5 := b2_1.mp c5
                refine g_iconst (v := 1) (pc' := 231) C dX4_clashes_230 (by decide) rfl ?_
                refine g_goto (tgt := 235) C dX4_clashes_231 (by decide) ?_
                refine g_istore (pc' := 237) C dX4_clashes_235 rfl rfl ?_
                refine g_iinc (pc' := 240) C dX4_clashes_237 rfl (ii1 _) rfl rfl ?_
                refine g_goto (tgt := 6) C dX4_clashes_240 (by decide) ?_
                exact G_pick [0, 1, 2, 3, 4, 5, 6, 7, 8, 9] rfl (ih (h + 1) (mClS I what m wh who at1 many but h b) _ _ (by simp [b2, mClS, ← ex9, c1, c2, c3, c4, c5]) (by rw [ex9]; exact nI_1 h) (by omega) hpost)
    refine g_iload (pc' := 8) C dX4_clashes_6 rfl rfl ?_
    refine g_aload_n (pc' := 9) C dX4_clashes_8 rfl rfl ?_
    refine f_X4_82 (pc' := 12) C dX4_clashes_9 (by first | assumption | exact rfl | exact al13 rfl | exact Nat.le_of_ble_eq_true rfl) rfl ?_
    refine g_icmp_ge (tgt := 243) (pc' := 15) C dX4_clashes_12 (by decide) rfl (fun c1 => absurd c1 (by rw [ex9, X.2.2.2.1]; exact nI_ge hh (by omega))) (fun c1 => ?_)
    refine g_aload_n (pc' := 16) C dX4_clashes_15 rfl rfl ?_
    refine f_X4_44 (pc' := 19) C dX4_clashes_16 (by first | assumption | exact rfl | exact al13 rfl | exact Nat.le_of_ble_eq_true rfl) rfl ?_
    refine g_iload (pc' := 21) C dX4_clashes_19 rfl rfl ?_
    refine g_iald (pc' := 22) C (h) ex9 h24 dX4_clashes_21 (by first | assumption | exact rfl | exact al13 rfl | exact Nat.le_of_ble_eq_true rfl) rfl rfl rfl ?_
    refine g_istore (pc' := 24) C dX4_clashes_22 rfl rfl ?_
    refine g_iload_n (pc' := 25) C dX4_clashes_24 rfl rfl ?_
    refine g_iconst (v := 1) (pc' := 26) C dX4_clashes_25 (by decide) rfl ?_
    refine g_icmp_ne (tgt := 48) (pc' := 29) C dX4_clashes_26 (by decide) rfl (fun c2 => ?_) (fun c2 => ?_)
    ·
      refine g_iload_n (pc' := 49) C dX4_clashes_48 rfl rfl ?_
      refine g_iconst (v := 2) (pc' := 50) C dX4_clashes_49 (by decide) rfl ?_
      refine g_icmp_ne (tgt := 77) (pc' := 53) C dX4_clashes_50 (by decide) rfl (fun c3 => ?_) (fun c3 => ?_)
      ·
        refine g_iload_n (pc' := 78) C dX4_clashes_77 rfl rfl ?_
        refine g_iconst (v := 3) (pc' := 79) C dX4_clashes_78 (by decide) rfl ?_
        refine g_icmp_ne (tgt := 154) (pc' := 82) C dX4_clashes_79 (by decide) rfl (fun c4 => ?_) (fun c4 => ?_)
        ·
          refine g_iload (pc' := 156) C dX4_clashes_154 rfl rfl ?_
          refine g_iconst (v := (-1)) (pc' := 157) C dX4_clashes_156 (by decide) rfl ?_
          refine g_icmp_eq (tgt := 176) (pc' := 160) C dX4_clashes_157 (by decide) rfl (fun c5 => ?_) (fun c5 => ?_)
          ·
            refine g_iconst (v := 0) (pc' := 177) C dX4_clashes_176 (by decide) rfl ?_
            exact J _ (by simp [mSame, b2, c1, c2, c3, c4, c5])
          ·
            refine g_aload_n (pc' := 161) C dX4_clashes_160 rfl rfl ?_
            refine f_X4_50 (pc' := 164) C dX4_clashes_161 (by first | assumption | exact rfl | exact al13 rfl | exact Nat.le_of_ble_eq_true rfl) rfl ?_
            refine g_iload (pc' := 166) C dX4_clashes_164 rfl rfl ?_
            refine g_iald (pc' := 167) C (h) ex9 h24 dX4_clashes_166 (by first | assumption | exact rfl | exact al13 rfl | exact Nat.le_of_ble_eq_true rfl) rfl rfl rfl ?_
            refine g_iload (pc' := 169) C dX4_clashes_167 rfl rfl ?_
            refine g_icmp_ne (tgt := 176) (pc' := 172) C dX4_clashes_169 (by decide) rfl (fun c6 => ?_) (fun c6 => ?_)
            ·
              refine g_iconst (v := 0) (pc' := 177) C dX4_clashes_176 (by decide) rfl ?_
              exact J _ (by simp [mSame, b2, c1, c2, c3, c4, c5, c6])
            ·
              refine g_iconst (v := 1) (pc' := 173) C dX4_clashes_172 (by decide) rfl ?_
              refine g_goto (tgt := 177) C dX4_clashes_173 (by decide) ?_
              exact J _ (by simp [mSame, b2, c1, c2, c3, c4, c5, c6])
        ·
          refine g_aload_n (pc' := 83) C dX4_clashes_82 rfl rfl ?_
          refine f_X4_26 (pc' := 86) C dX4_clashes_83 (by first | assumption | exact rfl | exact al13 rfl | exact Nat.le_of_ble_eq_true rfl) rfl ?_
          refine g_iload (pc' := 88) C dX4_clashes_86 rfl rfl ?_
          refine g_iald (pc' := 89) C (mm I h) (X.mt hh) (X.mt2 hh) dX4_clashes_88 (by first | assumption | exact rfl | exact al13 rfl | exact Nat.le_of_ble_eq_true rfl) rfl rfl rfl ?_
          refine g_aload_n (pc' := 90) C dX4_clashes_89 rfl rfl ?_
          refine f_X4_26 (pc' := 93) C dX4_clashes_90 (by first | assumption | exact rfl | exact al13 rfl | exact Nat.le_of_ble_eq_true rfl) rfl ?_
          refine g_iload_n (pc' := 94) C dX4_clashes_93 rfl rfl ?_
          refine g_iald (pc' := 95) C (m) hx hm dX4_clashes_94 (by first | assumption | exact rfl | exact al13 rfl | exact Nat.le_of_ble_eq_true rfl) rfl rfl rfl ?_
          refine g_icmp_eq (tgt := 146) (pc' := 98) C dX4_clashes_95 (by decide) rfl (fun c7 => ?_) (fun c7 => ?_)
          ·
            refine g_iconst (v := 1) (pc' := 147) C dX4_clashes_146 (by decide) rfl ?_
            refine g_goto (tgt := 177) C dX4_clashes_147 (by decide) ?_
            exact J _ (by simp [mSame, b2, c1, c2, c3, c4, c7])
          ·
            refine g_aload_n (pc' := 99) C dX4_clashes_98 rfl rfl ?_
            refine f_X4_26 (pc' := 102) C dX4_clashes_99 (by first | assumption | exact rfl | exact al13 rfl | exact Nat.le_of_ble_eq_true rfl) rfl ?_
            refine g_iload (pc' := 104) C dX4_clashes_102 rfl rfl ?_
            refine g_iald (pc' := 105) C (mm I h) (X.mt hh) (X.mt2 hh) dX4_clashes_104 (by first | assumption | exact rfl | exact al13 rfl | exact Nat.le_of_ble_eq_true rfl) rfl rfl rfl ?_
            refine g_aload_n (pc' := 106) C dX4_clashes_105 rfl rfl ?_
            refine f_X4_29 (pc' := 109) C dX4_clashes_106 (by first | assumption | exact rfl | exact al13 rfl | exact Nat.le_of_ble_eq_true rfl) rfl ?_
            refine g_iload_n (pc' := 110) C dX4_clashes_109 rfl rfl ?_
            refine g_iald (pc' := 111) C (m) hx hm dX4_clashes_110 (by first | assumption | exact rfl | exact al13 rfl | exact Nat.le_of_ble_eq_true rfl) rfl rfl rfl ?_
            refine g_icmp_eq (tgt := 146) (pc' := 114) C dX4_clashes_111 (by decide) rfl (fun c8 => ?_) (fun c8 => ?_)
            ·
              refine g_iconst (v := 1) (pc' := 147) C dX4_clashes_146 (by decide) rfl ?_
              refine g_goto (tgt := 177) C dX4_clashes_147 (by decide) ?_
              exact J _ (by simp [mSame, b2, c1, c2, c3, c4, c7, c8])
            ·
              refine g_aload_n (pc' := 115) C dX4_clashes_114 rfl rfl ?_
              refine f_X4_29 (pc' := 118) C dX4_clashes_115 (by first | assumption | exact rfl | exact al13 rfl | exact Nat.le_of_ble_eq_true rfl) rfl ?_
              refine g_iload (pc' := 120) C dX4_clashes_118 rfl rfl ?_
              refine g_iald (pc' := 121) C (mm I h) (X.mt hh) (X.mt2 hh) dX4_clashes_120 (by first | assumption | exact rfl | exact al13 rfl | exact Nat.le_of_ble_eq_true rfl) rfl rfl rfl ?_
              refine g_aload_n (pc' := 122) C dX4_clashes_121 rfl rfl ?_
              refine f_X4_26 (pc' := 125) C dX4_clashes_122 (by first | assumption | exact rfl | exact al13 rfl | exact Nat.le_of_ble_eq_true rfl) rfl ?_
              refine g_iload_n (pc' := 126) C dX4_clashes_125 rfl rfl ?_
              refine g_iald (pc' := 127) C (m) hx hm dX4_clashes_126 (by first | assumption | exact rfl | exact al13 rfl | exact Nat.le_of_ble_eq_true rfl) rfl rfl rfl ?_
              refine g_icmp_eq (tgt := 146) (pc' := 130) C dX4_clashes_127 (by decide) rfl (fun c9 => ?_) (fun c9 => ?_)
              ·
                refine g_iconst (v := 1) (pc' := 147) C dX4_clashes_146 (by decide) rfl ?_
                refine g_goto (tgt := 177) C dX4_clashes_147 (by decide) ?_
                exact J _ (by simp [mSame, b2, c1, c2, c3, c4, c7, c8, c9])
              ·
                refine g_aload_n (pc' := 131) C dX4_clashes_130 rfl rfl ?_
                refine f_X4_29 (pc' := 134) C dX4_clashes_131 (by first | assumption | exact rfl | exact al13 rfl | exact Nat.le_of_ble_eq_true rfl) rfl ?_
                refine g_iload (pc' := 136) C dX4_clashes_134 rfl rfl ?_
                refine g_iald (pc' := 137) C (mm I h) (X.mt hh) (X.mt2 hh) dX4_clashes_136 (by first | assumption | exact rfl | exact al13 rfl | exact Nat.le_of_ble_eq_true rfl) rfl rfl rfl ?_
                refine g_aload_n (pc' := 138) C dX4_clashes_137 rfl rfl ?_
                refine f_X4_29 (pc' := 141) C dX4_clashes_138 (by first | assumption | exact rfl | exact al13 rfl | exact Nat.le_of_ble_eq_true rfl) rfl ?_
                refine g_iload_n (pc' := 142) C dX4_clashes_141 rfl rfl ?_
                refine g_iald (pc' := 143) C (m) hx hm dX4_clashes_142 (by first | assumption | exact rfl | exact al13 rfl | exact Nat.le_of_ble_eq_true rfl) rfl rfl rfl ?_
                refine g_icmp_ne (tgt := 150) (pc' := 146) C dX4_clashes_143 (by decide) rfl (fun c10 => ?_) (fun c10 => ?_)
                ·
                  refine g_iconst (v := 0) (pc' := 151) C dX4_clashes_150 (by decide) rfl ?_
                  refine g_goto (tgt := 177) C dX4_clashes_151 (by decide) ?_
                  exact J _ (by simp [mSame, b2, c1, c2, c3, c4, c7, c8, c9, c10])
                ·
                  refine g_iconst (v := 1) (pc' := 147) C dX4_clashes_146 (by decide) rfl ?_
                  refine g_goto (tgt := 177) C dX4_clashes_147 (by decide) ?_
                  exact J _ (by simp [mSame, b2, c1, c2, c3, c4, c7, c8, c9, c10])
      ·
        refine g_aload_n (pc' := 54) C dX4_clashes_53 rfl rfl ?_
        refine f_X4_23 (pc' := 57) C dX4_clashes_54 (by first | assumption | exact rfl | exact al13 rfl | exact Nat.le_of_ble_eq_true rfl) rfl ?_
        refine g_iload (pc' := 59) C dX4_clashes_57 rfl rfl ?_
        refine g_iald (pc' := 60) C (mm I h) (X.mt hh) (X.mt2 hh) dX4_clashes_59 (by first | assumption | exact rfl | exact al13 rfl | exact Nat.le_of_ble_eq_true rfl) rfl rfl rfl ?_
        refine g_aload_n (pc' := 61) C dX4_clashes_60 rfl rfl ?_
        refine f_X4_23 (pc' := 64) C dX4_clashes_61 (by first | assumption | exact rfl | exact al13 rfl | exact Nat.le_of_ble_eq_true rfl) rfl ?_
        refine g_iload_n (pc' := 65) C dX4_clashes_64 rfl rfl ?_
        refine g_iald (pc' := 66) C (m) hx hm dX4_clashes_65 (by first | assumption | exact rfl | exact al13 rfl | exact Nat.le_of_ble_eq_true rfl) rfl rfl rfl ?_
        refine g_icmp_ne (tgt := 73) (pc' := 69) C dX4_clashes_66 (by decide) rfl (fun c11 => ?_) (fun c11 => ?_)
        ·
          refine g_iconst (v := 0) (pc' := 74) C dX4_clashes_73 (by decide) rfl ?_
          refine g_goto (tgt := 177) C dX4_clashes_74 (by decide) ?_
          exact J _ (by simp [mSame, b2, c1, c2, c3, c11])
        ·
          refine g_iconst (v := 1) (pc' := 70) C dX4_clashes_69 (by decide) rfl ?_
          refine g_goto (tgt := 177) C dX4_clashes_70 (by decide) ?_
          exact J _ (by simp [mSame, b2, c1, c2, c3, c11])
    ·
      refine g_aload_n (pc' := 30) C dX4_clashes_29 rfl rfl ?_
      refine f_X4_47 (pc' := 33) C dX4_clashes_30 (by first | assumption | exact rfl | exact al13 rfl | exact Nat.le_of_ble_eq_true rfl) rfl ?_
      refine g_iload (pc' := 35) C dX4_clashes_33 rfl rfl ?_
      refine g_iald (pc' := 36) C (h) ex9 h24 dX4_clashes_35 (by first | assumption | exact rfl | exact al13 rfl | exact Nat.le_of_ble_eq_true rfl) rfl rfl rfl ?_
      refine g_iload_n (pc' := 37) C dX4_clashes_36 rfl rfl ?_
      refine g_icmp_ne (tgt := 44) (pc' := 40) C dX4_clashes_37 (by decide) rfl (fun c12 => ?_) (fun c12 => ?_)
      ·
        refine g_iconst (v := 0) (pc' := 45) C dX4_clashes_44 (by decide) rfl ?_
        refine g_goto (tgt := 177) C dX4_clashes_45 (by decide) ?_
        exact J _ (by simp [mSame, b2, c1, c2, c12])
      ·
        refine g_iconst (v := 1) (pc' := 41) C dX4_clashes_40 (by decide) rfl ?_
        refine g_goto (tgt := 177) C dX4_clashes_41 (by decide) ?_
        exact J _ (by simp [mSame, b2, c1, c2, c12])
set_option maxRecDepth 20000 in
theorem m_X4_clashes {l : Launch} {g : wG} {z : wZ} {I : wI} {P : wP} {O : wO} {M N m : Nat} {what x wh who at1 many but : Int32} (X : MI M N I) (hx : x = nI m) (hm : m < 12) : RT l yX4_clashes cX4_clashes 12 ((some .boolean)) { frames := 1, cells := 0, slots := 0, locals := 23 } g z [.ref (g.2.2 12 0), .int what, .int x, .int wh, .int who, .int at1, .int many, .int but] I P O (dp (some (.int (b2 (mClL I what m wh who at1 many but N 0 false)))) (I) (P)) := by
  refine RT.of (own := RX4) rfl (by decide +kernel) (Nat.le_of_ble_eq_true rfl) rfl (fun K C hl hg hR => ?_)
  subst hl
  subst hg
  refine g_iconst (v := 0) (pc' := 1) C dX4_clashes_0 (by decide) rfl ?_
  refine g_istore (pc' := 3) C dX4_clashes_1 rfl rfl ?_
  refine g_iconst (v := 0) (pc' := 4) C dX4_clashes_3 (by decide) rfl ?_
  refine g_istore (pc' := 6) C dX4_clashes_4 rfl rfl ?_
  exact l_X4_clashes C hR X hx hm N 0 false 0 0 rfl nI_0.symm (by omega) ⟨rfl, rfl, rfl⟩
set_option maxRecDepth 20000 in
theorem m_X4_reason {l : Launch} {g : wG} {z : wZ} {I : wI} {P : wP} {O : wO} {M N m : Nat} {x wh who at1 many but : Int32} (X : MI M N I) (hx : x = nI m) (hm : m < 12) : RT l yX4_reason cX4_reason 8 ((some .int)) { frames := 2, cells := 0, slots := 0, locals := 54 } g z [.ref (g.2.2 12 0), .int x, .int wh, .int who, .int at1, .int many, .int but] I P O (dp (some (.int (mRe I N m wh who at1 many but))) (I) (P)) := by
  refine RT.of (own := RX4) rfl (by decide +kernel) (Nat.le_of_ble_eq_true rfl) rfl (fun K C hl hg hR => ?_)
  subst hl
  subst hg
  refine g_iconst (v := 1) (pc' := 1) C dX4_reason_0 (by decide) rfl ?_
  refine g_istore (pc' := 3) C dX4_reason_1 rfl rfl ?_
  refine g_iload (pc' := 5) C dX4_reason_3 rfl rfl ?_
  refine g_iconst (v := 5) (pc' := 6) C dX4_reason_5 (by decide) rfl ?_
  refine g_icmp_ge (tgt := 36) (pc' := 9) C dX4_reason_6 (by decide) rfl (fun c1 => absurd c1 (by first | decide | rw [thv]; decide)) (fun c1 => ?_)
  refine g_aload_n (pc' := 10) C dX4_reason_9 rfl rfl ?_
  refine g_iload (pc' := 12) C dX4_reason_10 rfl rfl ?_
  refine g_iload_n (pc' := 13) C dX4_reason_12 rfl rfl ?_
  refine g_iload_n (pc' := 14) C dX4_reason_13 rfl rfl ?_
  refine g_iload_n (pc' := 15) C dX4_reason_14 rfl rfl ?_
  refine g_iload (pc' := 17) C dX4_reason_15 rfl rfl ?_
  refine g_iload (pc' := 19) C dX4_reason_17 rfl rfl ?_
  refine g_iload (pc' := 21) C dX4_reason_19 rfl rfl ?_
  refine k_X4_100 (pc' := 24) C (m_X4_clashes X hx hm) dX4_reason_21 (by first | assumption | exact rfl | exact al13 rfl | exact Nat.le_of_ble_eq_true rfl) ⟨⟨Nat.le_of_ble_eq_true rfl, Nat.le_of_ble_eq_true rfl⟩, rfl, rfl⟩ (Nat.le_of_ble_eq_true rfl) ⟨Nat.zero_le _, Nat.zero_le _⟩ rfl ?_
  refine g_if_eq (tgt := 30) (pc' := 27) C dX4_reason_24 (by decide) rfl (fun c2 => ?_) (fun c2 => ?_)
  ·
    have c2 := b2_0.mp c2
    refine g_iinc (v := 2) (pc' := 33) C dX4_reason_30 rfl (by decide) rfl rfl ?_
    refine g_goto (tgt := 3) C dX4_reason_33 (by decide) ?_
    refine g_iload (pc' := 5) C dX4_reason_3 rfl rfl ?_
    refine g_iconst (v := 5) (pc' := 6) C dX4_reason_5 (by decide) rfl ?_
    refine g_icmp_ge (tgt := 36) (pc' := 9) C dX4_reason_6 (by decide) rfl (fun c3 => absurd c3 (by first | decide | rw [thv]; decide)) (fun c3 => ?_)
    refine g_aload_n (pc' := 10) C dX4_reason_9 rfl rfl ?_
    refine g_iload (pc' := 12) C dX4_reason_10 rfl rfl ?_
    refine g_iload_n (pc' := 13) C dX4_reason_12 rfl rfl ?_
    refine g_iload_n (pc' := 14) C dX4_reason_13 rfl rfl ?_
    refine g_iload_n (pc' := 15) C dX4_reason_14 rfl rfl ?_
    refine g_iload (pc' := 17) C dX4_reason_15 rfl rfl ?_
    refine g_iload (pc' := 19) C dX4_reason_17 rfl rfl ?_
    refine g_iload (pc' := 21) C dX4_reason_19 rfl rfl ?_
    refine k_X4_100 (pc' := 24) C (m_X4_clashes X hx hm) dX4_reason_21 (by first | assumption | exact rfl | exact al13 rfl | exact Nat.le_of_ble_eq_true rfl) ⟨⟨Nat.le_of_ble_eq_true rfl, Nat.le_of_ble_eq_true rfl⟩, rfl, rfl⟩ (Nat.le_of_ble_eq_true rfl) ⟨Nat.zero_le _, Nat.zero_le _⟩ rfl ?_
    refine g_if_eq (tgt := 30) (pc' := 27) C dX4_reason_24 (by decide) rfl (fun c4 => ?_) (fun c4 => ?_)
    ·
      have c4 := b2_0.mp c4
      refine g_iinc (v := 3) (pc' := 33) C dX4_reason_30 rfl (by decide) rfl rfl ?_
      refine g_goto (tgt := 3) C dX4_reason_33 (by decide) ?_
      refine g_iload (pc' := 5) C dX4_reason_3 rfl rfl ?_
      refine g_iconst (v := 5) (pc' := 6) C dX4_reason_5 (by decide) rfl ?_
      refine g_icmp_ge (tgt := 36) (pc' := 9) C dX4_reason_6 (by decide) rfl (fun c5 => absurd c5 (by first | decide | rw [thv]; decide)) (fun c5 => ?_)
      refine g_aload_n (pc' := 10) C dX4_reason_9 rfl rfl ?_
      refine g_iload (pc' := 12) C dX4_reason_10 rfl rfl ?_
      refine g_iload_n (pc' := 13) C dX4_reason_12 rfl rfl ?_
      refine g_iload_n (pc' := 14) C dX4_reason_13 rfl rfl ?_
      refine g_iload_n (pc' := 15) C dX4_reason_14 rfl rfl ?_
      refine g_iload (pc' := 17) C dX4_reason_15 rfl rfl ?_
      refine g_iload (pc' := 19) C dX4_reason_17 rfl rfl ?_
      refine g_iload (pc' := 21) C dX4_reason_19 rfl rfl ?_
      refine k_X4_100 (pc' := 24) C (m_X4_clashes X hx hm) dX4_reason_21 (by first | assumption | exact rfl | exact al13 rfl | exact Nat.le_of_ble_eq_true rfl) ⟨⟨Nat.le_of_ble_eq_true rfl, Nat.le_of_ble_eq_true rfl⟩, rfl, rfl⟩ (Nat.le_of_ble_eq_true rfl) ⟨Nat.zero_le _, Nat.zero_le _⟩ rfl ?_
      refine g_if_eq (tgt := 30) (pc' := 27) C dX4_reason_24 (by decide) rfl (fun c6 => ?_) (fun c6 => ?_)
      ·
        have c6 := b2_0.mp c6
        refine g_iinc (v := 4) (pc' := 33) C dX4_reason_30 rfl (by decide) rfl rfl ?_
        refine g_goto (tgt := 3) C dX4_reason_33 (by decide) ?_
        refine g_iload (pc' := 5) C dX4_reason_3 rfl rfl ?_
        refine g_iconst (v := 5) (pc' := 6) C dX4_reason_5 (by decide) rfl ?_
        refine g_icmp_ge (tgt := 36) (pc' := 9) C dX4_reason_6 (by decide) rfl (fun c7 => absurd c7 (by first | decide | rw [thv]; decide)) (fun c7 => ?_)
        refine g_aload_n (pc' := 10) C dX4_reason_9 rfl rfl ?_
        refine g_iload (pc' := 12) C dX4_reason_10 rfl rfl ?_
        refine g_iload_n (pc' := 13) C dX4_reason_12 rfl rfl ?_
        refine g_iload_n (pc' := 14) C dX4_reason_13 rfl rfl ?_
        refine g_iload_n (pc' := 15) C dX4_reason_14 rfl rfl ?_
        refine g_iload (pc' := 17) C dX4_reason_15 rfl rfl ?_
        refine g_iload (pc' := 19) C dX4_reason_17 rfl rfl ?_
        refine g_iload (pc' := 21) C dX4_reason_19 rfl rfl ?_
        refine k_X4_100 (pc' := 24) C (m_X4_clashes X hx hm) dX4_reason_21 (by first | assumption | exact rfl | exact al13 rfl | exact Nat.le_of_ble_eq_true rfl) ⟨⟨Nat.le_of_ble_eq_true rfl, Nat.le_of_ble_eq_true rfl⟩, rfl, rfl⟩ (Nat.le_of_ble_eq_true rfl) ⟨Nat.zero_le _, Nat.zero_le _⟩ rfl ?_
        refine g_if_eq (tgt := 30) (pc' := 27) C dX4_reason_24 (by decide) rfl (fun c8 => ?_) (fun c8 => ?_)
        ·
          have c8 := b2_0.mp c8
          refine g_iinc (v := 5) (pc' := 33) C dX4_reason_30 rfl (by decide) rfl rfl ?_
          refine g_goto (tgt := 3) C dX4_reason_33 (by decide) ?_
          refine g_iload (pc' := 5) C dX4_reason_3 rfl rfl ?_
          refine g_iconst (v := 5) (pc' := 6) C dX4_reason_5 (by decide) rfl ?_
          refine g_icmp_ge (tgt := 36) (pc' := 9) C dX4_reason_6 (by decide) rfl (fun c9 => ?_) (fun c9 => absurd (by first | decide | rw [thv]; decide) c9)
          refine g_iconst (v := 0) (pc' := 37) C dX4_reason_36 (by decide) rfl ?_
          exact g_iret C hR dX4_reason_37 ⟨by simp [mRe, c1, c2, c3, c4, c5, c6, c7, c8, c9], rfl, rfl⟩
        ·
          have c8 := b2_1.mp c8
          refine g_iload (pc' := 29) C dX4_reason_27 rfl rfl ?_
          exact g_iret C hR dX4_reason_29 ⟨by simp [mRe, c1, c2, c3, c4, c5, c6, c7, c8], rfl, rfl⟩
      ·
        have c6 := b2_1.mp c6
        refine g_iload (pc' := 29) C dX4_reason_27 rfl rfl ?_
        exact g_iret C hR dX4_reason_29 ⟨by simp [mRe, c1, c2, c3, c4, c5, c6], rfl, rfl⟩
    ·
      have c4 := b2_1.mp c4
      refine g_iload (pc' := 29) C dX4_reason_27 rfl rfl ?_
      exact g_iret C hR dX4_reason_29 ⟨by simp [mRe, c1, c2, c3, c4], rfl, rfl⟩
  ·
    have c2 := b2_1.mp c2
    refine g_iload (pc' := 29) C dX4_reason_27 rfl rfl ?_
    exact g_iret C hR dX4_reason_29 ⟨by simp [mRe, c1, c2], rfl, rfl⟩
end WModel
end
