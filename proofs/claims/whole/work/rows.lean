section
-- ===== PART A: goes FIRST, ahead of the names: the tables' words, and 'selects' of the private methods out of them =====
/-- a private method of a class that the tables say can be made, by its rows of tables_1 -/
def lw_okq (q : MethodName × Nat) : Prop := (q.1.cls ≠ "java/lang/invoke/MethodHandle" ∧ q.1.cls ≠ "java/lang/invoke/VarHandle") ∧ Cond.instantiable q.1.cls q.2 ∈ tables_1 ∧ Cond.privateMethod q.1 ∈ tables_1 ∧ Cond.instanceMethod q.1 ∈ tables_1
theorem lw_p0 : lw_okq (⟨"Hearingpay", "matterAt", "(I)LHearingpay$Matter;"⟩, 7) := ⟨⟨by decide +kernel, by decide +kernel⟩, List.mem_of_getElem? (i := 13) (by decide +kernel), List.mem_of_getElem? (i := 79) (by decide +kernel), List.mem_of_getElem? (i := 80) (by decide +kernel)⟩
theorem lw_p1 : lw_okq (⟨"Hearingpay", "interpreterAt", "(I)LHearingpay$Interpreter;"⟩, 7) := ⟨⟨by decide +kernel, by decide +kernel⟩, List.mem_of_getElem? (i := 13) (by decide +kernel), List.mem_of_getElem? (i := 96) (by decide +kernel), List.mem_of_getElem? (i := 97) (by decide +kernel)⟩
theorem lw_p2 : lw_okq (⟨"java/lang/Throwable", "fillInStackTrace", "(I)Ljava/lang/Throwable;"⟩, 6) := ⟨⟨by decide +kernel, by decide +kernel⟩, List.mem_of_getElem? (i := 138) (by decide +kernel), List.mem_of_getElem? (i := 136) (by decide +kernel), List.mem_of_getElem? (i := 137) (by decide +kernel)⟩
theorem lw_p3 : lw_okq (⟨"Hearingpay", "feeFor", "(LHearingpay$Matter;I)I"⟩, 7) := ⟨⟨by decide +kernel, by decide +kernel⟩, List.mem_of_getElem? (i := 13) (by decide +kernel), List.mem_of_getElem? (i := 267) (by decide +kernel), List.mem_of_getElem? (i := 268) (by decide +kernel)⟩
theorem lw_p4 : lw_okq (⟨"Hearingpay", "dropAllOf", "(LHearingpay$Matter;)I"⟩, 7) := ⟨⟨by decide +kernel, by decide +kernel⟩, List.mem_of_getElem? (i := 13) (by decide +kernel), List.mem_of_getElem? (i := 288) (by decide +kernel), List.mem_of_getElem? (i := 289) (by decide +kernel)⟩
theorem lw_p5 : lw_okq (⟨"Hearingpay", "hearingAt", "(I)LHearingpay$Hearing;"⟩, 7) := ⟨⟨by decide +kernel, by decide +kernel⟩, List.mem_of_getElem? (i := 13) (by decide +kernel), List.mem_of_getElem? (i := 292) (by decide +kernel), List.mem_of_getElem? (i := 293) (by decide +kernel)⟩
theorem lw_p6 : lw_okq (⟨"Hearingpay", "isToBegin", "(LHearingpay$Hearing;)Z"⟩, 7) := ⟨⟨by decide +kernel, by decide +kernel⟩, List.mem_of_getElem? (i := 13) (by decide +kernel), List.mem_of_getElem? (i := 296) (by decide +kernel), List.mem_of_getElem? (i := 297) (by decide +kernel)⟩
theorem lw_p7 : lw_okq (⟨"Hearingpay", "leave", "(LHearingpay$Hearing;)V"⟩, 7) := ⟨⟨by decide +kernel, by decide +kernel⟩, List.mem_of_getElem? (i := 13) (by decide +kernel), List.mem_of_getElem? (i := 300) (by decide +kernel), List.mem_of_getElem? (i := 301) (by decide +kernel)⟩
theorem lw_p8 : lw_okq (⟨"Hearingpay", "isAsNeeded", "(LHearingpay$Matter;I)Z"⟩, 7) := ⟨⟨by decide +kernel, by decide +kernel⟩, List.mem_of_getElem? (i := 13) (by decide +kernel), List.mem_of_getElem? (i := 352) (by decide +kernel), List.mem_of_getElem? (i := 353) (by decide +kernel)⟩
theorem lw_p9 : lw_okq (⟨"Hearingpay", "clashReason", "(LHearingpay$Hearing;LHearingpay$Matter;IIII)I"⟩, 7) := ⟨⟨by decide +kernel, by decide +kernel⟩, List.mem_of_getElem? (i := 13) (by decide +kernel), List.mem_of_getElem? (i := 361) (by decide +kernel), List.mem_of_getElem? (i := 362) (by decide +kernel)⟩
theorem lw_p10 : lw_okq (⟨"Hearingpay", "put", "(LHearingpay$Hearing;III)V"⟩, 7) := ⟨⟨by decide +kernel, by decide +kernel⟩, List.mem_of_getElem? (i := 13) (by decide +kernel), List.mem_of_getElem? (i := 426) (by decide +kernel), List.mem_of_getElem? (i := 427) (by decide +kernel)⟩
theorem lw_p11 : lw_okq (⟨"Hearingpay", "endHearings", "()I"⟩, 7) := ⟨⟨by decide +kernel, by decide +kernel⟩, List.mem_of_getElem? (i := 13) (by decide +kernel), List.mem_of_getElem? (i := 485) (by decide +kernel), List.mem_of_getElem? (i := 486) (by decide +kernel)⟩
theorem lw_p12 : lw_okq (⟨"Hearingpay", "runTerms", "()V"⟩, 7) := ⟨⟨by decide +kernel, by decide +kernel⟩, List.mem_of_getElem? (i := 13) (by decide +kernel), List.mem_of_getElem? (i := 494) (by decide +kernel), List.mem_of_getElem? (i := 495) (by decide +kernel)⟩
theorem lw_p13 : lw_okq (⟨"Hearingpay", "paidHoursOf", "(LHearingpay$Matter;)I"⟩, 7) := ⟨⟨by decide +kernel, by decide +kernel⟩, List.mem_of_getElem? (i := 13) (by decide +kernel), List.mem_of_getElem? (i := 533) (by decide +kernel), List.mem_of_getElem? (i := 534) (by decide +kernel)⟩
theorem lw_p14 : lw_okq (⟨"HearingpayModel", "isMatter", "(I)Z"⟩, 24) := ⟨⟨by decide +kernel, by decide +kernel⟩, List.mem_of_getElem? (i := 561) (by decide +kernel), List.mem_of_getElem? (i := 663) (by decide +kernel), List.mem_of_getElem? (i := 664) (by decide +kernel)⟩
theorem lw_p15 : lw_okq (⟨"HearingpayModel", "leaves", "(I)V"⟩, 24) := ⟨⟨by decide +kernel, by decide +kernel⟩, List.mem_of_getElem? (i := 561) (by decide +kernel), List.mem_of_getElem? (i := 671) (by decide +kernel), List.mem_of_getElem? (i := 672) (by decide +kernel)⟩
def lw_privs_1 : List (MethodName × Nat) := [(⟨"Hearingpay", "matterAt", "(I)LHearingpay$Matter;"⟩, 7), (⟨"Hearingpay", "interpreterAt", "(I)LHearingpay$Interpreter;"⟩, 7), (⟨"java/lang/Throwable", "fillInStackTrace", "(I)Ljava/lang/Throwable;"⟩, 6), (⟨"Hearingpay", "feeFor", "(LHearingpay$Matter;I)I"⟩, 7), (⟨"Hearingpay", "dropAllOf", "(LHearingpay$Matter;)I"⟩, 7), (⟨"Hearingpay", "hearingAt", "(I)LHearingpay$Hearing;"⟩, 7), (⟨"Hearingpay", "isToBegin", "(LHearingpay$Hearing;)Z"⟩, 7), (⟨"Hearingpay", "leave", "(LHearingpay$Hearing;)V"⟩, 7), (⟨"Hearingpay", "isAsNeeded", "(LHearingpay$Matter;I)Z"⟩, 7), (⟨"Hearingpay", "clashReason", "(LHearingpay$Hearing;LHearingpay$Matter;IIII)I"⟩, 7), (⟨"Hearingpay", "put", "(LHearingpay$Hearing;III)V"⟩, 7), (⟨"Hearingpay", "endHearings", "()I"⟩, 7), (⟨"Hearingpay", "runTerms", "()V"⟩, 7), (⟨"Hearingpay", "paidHoursOf", "(LHearingpay$Matter;)I"⟩, 7), (⟨"HearingpayModel", "isMatter", "(I)Z"⟩, 24), (⟨"HearingpayModel", "leaves", "(I)V"⟩, 24)]
theorem lw_r1 : ∀ q ∈ lw_privs_1, lw_okq q := List.forall_mem_cons.mpr ⟨lw_p0, List.forall_mem_cons.mpr ⟨lw_p1, List.forall_mem_cons.mpr ⟨lw_p2, List.forall_mem_cons.mpr ⟨lw_p3, List.forall_mem_cons.mpr ⟨lw_p4, List.forall_mem_cons.mpr ⟨lw_p5, List.forall_mem_cons.mpr ⟨lw_p6, List.forall_mem_cons.mpr ⟨lw_p7, List.forall_mem_cons.mpr ⟨lw_p8, List.forall_mem_cons.mpr ⟨lw_p9, List.forall_mem_cons.mpr ⟨lw_p10, List.forall_mem_cons.mpr ⟨lw_p11, List.forall_mem_cons.mpr ⟨lw_p12, List.forall_mem_cons.mpr ⟨lw_p13, List.forall_mem_cons.mpr ⟨lw_p14, List.forall_mem_cons.mpr ⟨lw_p15, fun _ h => absurd h List.not_mem_nil⟩⟩⟩⟩⟩⟩⟩⟩⟩⟩⟩⟩⟩⟩⟩⟩
theorem lw_p16 : lw_okq (⟨"HearingpayModel", "isOpen", "(I)Z"⟩, 24) := ⟨⟨by decide +kernel, by decide +kernel⟩, List.mem_of_getElem? (i := 561) (by decide +kernel), List.mem_of_getElem? (i := 694) (by decide +kernel), List.mem_of_getElem? (i := 695) (by decide +kernel)⟩
theorem lw_p17 : lw_okq (⟨"HearingpayModel", "fits", "(II)Z"⟩, 24) := ⟨⟨by decide +kernel, by decide +kernel⟩, List.mem_of_getElem? (i := 561) (by decide +kernel), List.mem_of_getElem? (i := 698) (by decide +kernel), List.mem_of_getElem? (i := 699) (by decide +kernel)⟩
theorem lw_p18 : lw_okq (⟨"HearingpayModel", "reason", "(IIIIII)I"⟩, 24) := ⟨⟨by decide +kernel, by decide +kernel⟩, List.mem_of_getElem? (i := 561) (by decide +kernel), List.mem_of_getElem? (i := 702) (by decide +kernel), List.mem_of_getElem? (i := 703) (by decide +kernel)⟩
theorem lw_p19 : lw_okq (⟨"HearingpayModel", "clashes", "(IIIIIII)Z"⟩, 24) := ⟨⟨by decide +kernel, by decide +kernel⟩, List.mem_of_getElem? (i := 561) (by decide +kernel), List.mem_of_getElem? (i := 706) (by decide +kernel), List.mem_of_getElem? (i := 707) (by decide +kernel)⟩
theorem lw_p20 : lw_okq (⟨"HearingpayModel", "comes", "(I)V"⟩, 24) := ⟨⟨by decide +kernel, by decide +kernel⟩, List.mem_of_getElem? (i := 561) (by decide +kernel), List.mem_of_getElem? (i := 713) (by decide +kernel), List.mem_of_getElem? (i := 714) (by decide +kernel)⟩
theorem lw_p21 : lw_okq (⟨"HearingpayModel", "isHearing", "(I)Z"⟩, 24) := ⟨⟨by decide +kernel, by decide +kernel⟩, List.mem_of_getElem? (i := 561) (by decide +kernel), List.mem_of_getElem? (i := 721) (by decide +kernel), List.mem_of_getElem? (i := 722) (by decide +kernel)⟩
theorem lw_p22 : lw_okq (⟨"HearingpayModel", "ends", "()I"⟩, 24) := ⟨⟨by decide +kernel, by decide +kernel⟩, List.mem_of_getElem? (i := 561) (by decide +kernel), List.mem_of_getElem? (i := 737) (by decide +kernel), List.mem_of_getElem? (i := 738) (by decide +kernel)⟩
theorem lw_p23 : lw_okq (⟨"HearingpayModel", "toCome", "(I)I"⟩, 24) := ⟨⟨by decide +kernel, by decide +kernel⟩, List.mem_of_getElem? (i := 561) (by decide +kernel), List.mem_of_getElem? (i := 753) (by decide +kernel), List.mem_of_getElem? (i := 754) (by decide +kernel)⟩
def lw_privs_2 : List (MethodName × Nat) := [(⟨"HearingpayModel", "isOpen", "(I)Z"⟩, 24), (⟨"HearingpayModel", "fits", "(II)Z"⟩, 24), (⟨"HearingpayModel", "reason", "(IIIIII)I"⟩, 24), (⟨"HearingpayModel", "clashes", "(IIIIIII)Z"⟩, 24), (⟨"HearingpayModel", "comes", "(I)V"⟩, 24), (⟨"HearingpayModel", "isHearing", "(I)Z"⟩, 24), (⟨"HearingpayModel", "ends", "()I"⟩, 24), (⟨"HearingpayModel", "toCome", "(I)I"⟩, 24)]
theorem lw_r2 : ∀ q ∈ lw_privs_2, lw_okq q := List.forall_mem_cons.mpr ⟨lw_p16, List.forall_mem_cons.mpr ⟨lw_p17, List.forall_mem_cons.mpr ⟨lw_p18, List.forall_mem_cons.mpr ⟨lw_p19, List.forall_mem_cons.mpr ⟨lw_p20, List.forall_mem_cons.mpr ⟨lw_p21, List.forall_mem_cons.mpr ⟨lw_p22, List.forall_mem_cons.mpr ⟨lw_p23, fun _ h => absurd h List.not_mem_nil⟩⟩⟩⟩⟩⟩⟩⟩
def lw_privs : List (MethodName × Nat) := lw_privs_1 ++ (lw_privs_2)
def lw_tbl : List Cond := k2_sels lw_privs ++ tables_1
theorem lw_privs_ok : ∀ q ∈ lw_privs, lw_okq q := by
  show ∀ q ∈ lw_privs_1 ++ (lw_privs_2), lw_okq q
  exact List.forall_mem_append.mpr ⟨lw_r1, lw_r2⟩
-- ===== end of PART A; then your names; then what follows =====
/-! ===== BEGIN words of one list among another's, by their places ===== -/
theorem goodIn_r {big : List Cond} (ws : List Cond) (ps : List Nat) (hp : ws = ps.filterMap (fun i => big[i]?)) (h : ws.all goodWord = true) : GoodIn big ws := by
  intro w hw
  have h1 := List.all_eq_true.mp h w hw
  rw [hp] at hw
  obtain ⟨i, -, hi⟩ := List.mem_filterMap.mp hw
  have hm : w ∈ big := by first | exact List.mem_of_getElem? hi | exact List.getElem?_mem hi
  exact ⟨hm, good_of_word h1⟩
theorem goodIn_app {big a b : List Cond} (ha : GoodIn big a) (hb : GoodIn big b) : GoodIn big (a ++ b) := fun w h => (List.mem_append.mp h).elim (ha w) (hb w)
theorem goodIn_ca {big a b : List Cond} {c : Cond} (ha : GoodIn big (c :: a)) (hb : GoodIn big b) : GoodIn big (c :: (a ++ b)) := fun w h => (List.mem_cons.mp h).elim (fun e => ha w (List.mem_cons.mpr (Or.inl e))) (fun h => (List.mem_append.mp h).elim (fun h => ha w (List.mem_cons.mpr (Or.inr h))) (hb w))
theorem goodIn_sub {big ws : List Cond} (hm : ∀ w ∈ ws, w ∈ big) (h : ws.all goodWord = true) : GoodIn big ws := fun w hw => ⟨hm w hw, good_of_word (List.all_eq_true.mp h w hw)⟩
/-! ===== END ===== -/

/-! ===== BEGIN exceptions that leave a method, and their catching by the caller (launches without stack traces) ===== -/
section VXA
/-! The laws vx_back, vx_callV, vx_callS, vx_callSW, vx_throw0, vx_throwS follow proofs of the library, with one case more: JvmDerived/Free/Laws.lean (Back.of_free), Shelf42/LK1.lean (callV, callS), Shelf/KitTraced.lean (throwNew0V, throwNewS). -/
/-- where a method has thrown q: the class by its name, the cell, what was written, the world -/
def vx_T (XC : String → State → State → Prop) (st : State) (q : Addr) (t : State) (mc ms : Nat) (free : Addr → Prop) : Prop :=
  ∃ (E : String) (ce : Cell) (L : List Loc), XC E st t ∧ t.heap[q]? = some ce ∧ ce.vm = .none ∧ st.vm.findClass E = some ce.cls ∧ st.WarmedH t.vm ∧ st.sameButNew ({ t with vm := st.vm } : State) L mc ms ∧ ∀ z ∈ L, free z.base
def vx_Q (Qc : Array Value → State → Outcome → State → Prop) (XC : String → State → State → Prop) (mc ms : Nat) (free : Addr → Prop) : Array Value → State → Outcome → State → Prop := fun a st o t =>
  (Qc a st o t ∧ ∃ L, FrameEnd st o t L mc ms ∧ ∀ q ∈ L, free q.base) ∨ ∃ q, o = .threw q ∧ vx_T XC st q t mc ms free
/-- a callee that returns or throws -/
def vx_Met (l : Launch) (y : MethodName) (ws : List Cond) (rm : Room) (Pc : Array Value → State → Prop) (Qc : Array Value → State → Outcome → State → Prop) (XC : String → State → State → Prop) (mc ms : Nat) (free : Addr → Prop) : Prop :=
  MetFree l y (headSpec ws rm) Pc (fun _ _ _ _ _ => True) (vx_Q Qc XC mc ms free)
def vx_Post (XC : String → State → State → Prop) (mc ms : Nat) (free : Addr → Prop) : Pt → Array Value → Addr → Pt → Prop := fun A a q B =>
  ∃ (g : JFrame) (mk : MethodId) (t : State) (L : List Loc) (E : String) (ce : Cell), B.U.heap = t.heap ∧ B.U.vm = t.vm ∧ XC E (A.U.calling g mk a) t ∧ t.heap[q]? = some ce ∧ ce.vm = .none ∧ A.U.vm.findClass E = some ce.cls ∧ B.locs = A.locs ++ L ∧ (∀ z ∈ L, free z.base) ∧ B.cells = A.cells + mc ∧ B.slots = A.slots + ms
def vx_Back (l : Launch) (R : Room) (p : Program) (e : Env) (below : List Frame) (s : State) (sargs : Array Value) (y : MethodName) (len W9 : Nat)
    (Pre : Pt → Array Value → Prop) (Post : Pt → Array Value → Option Value → Pt → Prop) (PostX : Pt → Array Value → Addr → Pt → Prop) : Prop :=
  ∀ (m : MethodId) (meth : Method) (c : Code) (A : Pt) (g : JFrame) (ig : Instr) (mk : MethodId) (a : Array Value),
    Stand p l e R s m sargs below meth c A.U A.locs A.cells A.slots → g.method = m → g.locals.size = c.maxLocals → decode c.code g.pc = .ok (ig, len) →
    2 * g.monitorRoom + (g.stack.map fun v => v.category).sum ≤ W9 → A.U.methodNamed? y = some mk → Pre A a →
    (∃ (v : Option Value) (B : Pt), Stand p l e R s m sargs below meth c B.U B.locs B.cells B.slots ∧ Post A a v B ∧
      Steps p.tables e below (doInvoke e (A.U.setTop g) [] mk a).1 (B.U.setTop { g with pc := g.pc + len, stack := v.toList ++ g.stack })) ∨
    (∃ (q : Addr) (B : Pt), Stand p l e R s m sargs below meth c B.U B.locs B.cells B.slots ∧ PostX A a q B ∧
      Steps p.tables e below (doInvoke e (A.U.setTop g) [] mk a).1 ((B.U.setTop g).pushFrame (.throwing q)))
section Payer
variable {l : Launch} {R : Room} {p : Program} {e : Env} {below : List Frame} {s : State} {sargs : Array Value} {y : MethodName} {len W9 : Nat}
theorem vx_back {ws : List Cond} {rm : Room} {Pc : Array Value → State → Prop} {Qc : Array Value → State → Outcome → State → Prop} {XC : String → State → State → Prop} {mc ms : Nat} {free : Addr → Prop} {bytes : ByteArray} {maxL : Nat} {ret : Option FieldType}
    (hM : vx_Met l y ws rm Pc Qc XC mc ms free) (hblind : FrameBlind Pc) (hrc : rm.cells = mc) (hrs : rm.slots = ms)
    (hframes : rm.frames + 1 ≤ R.frames) (hlocals : W9 + (maxL + 11) + rm.locals ≤ R.locals)
    (hws : ∀ w ∈ ws, ∀ a' U, s.WarmedH U.vm → w.before a' U = true) (hcode : Cond.code y bytes maxL ret ∈ ws) (hinit : ∀ a' U, s.WarmedH U.vm → (Cond.initialized y.cls).before a' U = true) :
    vx_Back l R p e below s sargs y len W9 (PreOf R mc ms Pc) (PostOf Qc mc ms free) (vx_Post XC mc ms free) := by
  intro m meth c A g ig mk a X hg hsize hdg hW hn hp
  have h1 : (headSpec ws rm).pre.before a A.U = true := atoms_intro fun w hw => hws w hw _ _ X.warmed
  have h2 : (Cond.code y bytes maxL ret).before a A.U = true := hws _ hcode _ _ X.warmed
  have h3 : (Cond.initialized y.cls).before a A.U = true := hinit _ _ X.warmed
  have h4 : A.cells + (headSpec ws rm).room.cells ≤ R.cells := by rw [show (headSpec ws rm).room.cells = mc from hrc]; exact hp.1
  have h5 : A.slots + (headSpec ws rm).room.slots ≤ R.slots := by rw [show (headSpec ws rm).room.slots = ms from hrs]; exact hp.2.1
  have hPc : Pc a (A.U.calling g mk a) := hblind _ _ _ _ hp.2.2
  obtain ⟨U, Ls, c0, s0⟩ := A
  dsimp only [Pt.U, Pt.locs, Pt.cells, Pt.slots] at h1 h2 h3 h4 h5 X hn hPc ⊢
  obtain ⟨methY, cY, hmY, hcY, -, hlY, -, -, -, -⟩ := Cond.code_spec hn h2
  obtain ⟨kY, hkY, -⟩ := className_of_methodNamed hn
  have hinitY : kY.init = .initialized := Cond.initialized_spec (findClass_of_methodNamed hn) hkY h3
  have h : At U g.method c below := by rw [hg]; exact X.here
  have hlocals9 : W9 + (maxL + 11) + (headSpec ws rm).room.locals ≤ R.locals := hlocals
  have happ : (headSpec ws rm).appliesLoose y e.platform (U.calling g mk a) = true :=
    Spec.appliesLoose_calling (g := g) h hdg hn hkY hinitY
      (X.room_calling (g := g) (R' := (headSpec ws rm).room) hsize hmY hcY hframes (by rw [hlY]; omega) h4 h5) h1
  obtain ⟨mid, hmid⟩ := h.above
  have hfr : (U.setTop g).frames = (.java g :: mid) ++ below := by rw [State.frames_setTop' g h.top, hmid]; rfl
  obtain ⟨o, s₂, hsteps, -, hend, hq⟩ := Steps.callFree hM p X.admits X.cas X.clock (acts := []) hfr happ hPc trivial
  have hq' : vx_Q Qc XC mc ms free a (U.calling g mk a) o s₂ := hq
  rw [State.frames_setTop' g h.top] at hend
  obtain ⟨g₀, hg0⟩ := Option.isSome_iff_exists.mp h.top
  obtain ⟨r, hr⟩ := State.topJava?_eq_some.mp hg0
  have hr' : (({ U with heap := s₂.heap, slotsUsed := s₂.slotsUsed } : State).setVm s₂.vm).frames = .java g₀ :: r := hr
  rcases hq' with ⟨hqc, L, hfe, hL⟩ | ⟨q, rfl, E, ce, L, hx, hce, hcv, hcl, hW₂, hsm, hL⟩
  · obtain ⟨⟨v, rfl⟩, hW₂, e2, q2, q3, q4, q5, q6⟩ := id hfe
    have e3 : s₂ = ({ (U.calling g mk a).setFrames s₂.frames with heap := s₂.heap, slotsUsed := s₂.slotsUsed } : State).setVm s₂.vm := by
      have : s₂ = ({ s₂ with vm := (U.calling g mk a).vm } : State).setVm s₂.vm := rfl
      rw [e2] at this
      exact this
    obtain ⟨c₂, i₂, len₂, hc₂, hd₂, hf₂⟩ := hend
    have hW' : U.WarmedH s₂.vm := hW₂
    have hcc : c₂ = c := by
      have h1 : s₂.code? g.method = U.code? g.method := by
        rw [State.code?_eq, State.code?_eq, hW'.alike.method?]
      exact Option.some.inj (hc₂.symm.trans (h1.trans h.code))
    subst hcc
    have hlen : len₂ = len := by rw [hdg] at hd₂; cases hd₂; rfl
    subst hlen
    have hs₂ : s₂ = (({ U with heap := s₂.heap, slotsUsed := s₂.slotsUsed } : State).setVm s₂.vm).setTop { g with pc := g.pc + len₂, stack := v.toList ++ g.stack } := by
      refine e3.trans ?_
      rw [hf₂, State.calling_eq h.top, State.setFrames_setFrames, State.setTop_of_frames _ hr', hr]
      rfl
    have hsame : U.sameButNew ({ U with heap := s₂.heap, slotsUsed := s₂.slotsUsed } : State) L mc ms := by
      refine ⟨?_, q2, q3, q4, q5, q6⟩
      obtain ⟨t, ht, -⟩ := State.frames_cons hr
      show ({ U with heap := s₂.heap, slotsUsed := s₂.slotsUsed } : State) = { U.setFrames U.frames with heap := s₂.heap, slotsUsed := s₂.slotsUsed }
      rw [State.setFrames_self ht]
    subst hg
    refine Or.inl ⟨v, ⟨(({ U with heap := s₂.heap, slotsUsed := s₂.slotsUsed } : State).setVm s₂.vm), Ls ++ L, c0 + mc, s0 + ms⟩,
      ⟨X.admits, X.cas, X.clock, X.frames, X.room, X.hears, X.method, X.code, (X.here.setHeapUsed s₂.heap s₂.slotsUsed).setVm hW'.alike, X.tail, State.WarmedH.trans X.warmed hW', X.limits, X.bytes, X.same.trans (hsame.setVm s.vm)⟩,
      ⟨g, mk, s₂, L, rfl, rfl, hqc, rfl, hL, rfl, rfl⟩, ?_⟩
    show Steps p.tables e below _ ((({ U with heap := s₂.heap, slotsUsed := s₂.slotsUsed } : State).setVm s₂.vm).setTop { g with pc := g.pc + len₂, stack := v.toList ++ g.stack })
    rw [← hs₂]
    exact hsteps
  · obtain ⟨e2, q2, q3, q4, q5, q6⟩ := id hsm
    have e3 : s₂ = ({ (U.calling g mk a).setFrames s₂.frames with heap := s₂.heap, slotsUsed := s₂.slotsUsed } : State).setVm s₂.vm := by
      have : s₂ = ({ s₂ with vm := (U.calling g mk a).vm } : State).setVm s₂.vm := rfl
      rw [e2] at this
      exact this
    have hf₂ : s₂.frames = .throwing q :: .java g :: U.frames.tail := hend
    have hW' : U.WarmedH s₂.vm := hW₂
    have hs₂ : s₂ = ((({ U with heap := s₂.heap, slotsUsed := s₂.slotsUsed } : State).setVm s₂.vm).setTop g).pushFrame (.throwing q) := by
      refine e3.trans ?_
      rw [hf₂, State.calling_eq h.top, State.setFrames_setFrames, State.pushFrame, State.frames_setTop _ hr', State.setTop_of_frames _ hr', State.setFrames_setFrames, hr]
      rfl
    have hsame : U.sameButNew ({ U with heap := s₂.heap, slotsUsed := s₂.slotsUsed } : State) L mc ms := by
      refine ⟨?_, q2, q3, q4, q5, q6⟩
      obtain ⟨t, ht, -⟩ := State.frames_cons hr
      show ({ U with heap := s₂.heap, slotsUsed := s₂.slotsUsed } : State) = { U.setFrames U.frames with heap := s₂.heap, slotsUsed := s₂.slotsUsed }
      rw [State.setFrames_self ht]
    subst hg
    refine Or.inr ⟨q, ⟨(({ U with heap := s₂.heap, slotsUsed := s₂.slotsUsed } : State).setVm s₂.vm), Ls ++ L, c0 + mc, s0 + ms⟩,
      ⟨X.admits, X.cas, X.clock, X.frames, X.room, X.hears, X.method, X.code, (X.here.setHeapUsed s₂.heap s₂.slotsUsed).setVm hW'.alike, X.tail, State.WarmedH.trans X.warmed hW', X.limits, X.bytes, X.same.trans (hsame.setVm s.vm)⟩,
      ⟨g, mk, s₂, L, E, ce, rfl, rfl, hx, hce, hcv, hcl, rfl, hL, rfl, rfl⟩, ?_⟩
    show Steps p.tables e below _ (((({ U with heap := s₂.heap, slotsUsed := s₂.slotsUsed } : State).setVm s₂.vm).setTop g).pushFrame (.throwing q))
    rw [← hs₂]
    exact hsteps
end Payer
section Calls
variable {p : Program} {l : Launch} {e : Env} {R : Room} {s : State} {m : MethodId} {args : Array Value} {below : List Frame} {meth : Method} {c : Code} {T : State} {locs : List Loc} {cells slots : Nat}
theorem vx_callV (X : Stand p l e R s m args below meth c T locs cells slots) (hexec : p.tables.exec = Jvm.exec) {own C : String} {index : Nat} {y : MethodName} {bytes : ByteArray} {maxL : Nat} {ret : Option FieldType}
    (hown : s.vm.findClass own = some m.cls) (hlink : (Cond.methodLink own index y).before args s = true) (hinst : (Cond.instanceMethod y).before args s = true) (hsel : (Cond.selects C y y).before args s = true)
    (hcode : (Cond.code y bytes maxL ret).before args s = true) (hy : y.cls ≠ "java/lang/invoke/MethodHandle" ∧ y.cls ≠ "java/lang/invoke/VarHandle")
    {W9 : Nat} {Pre : Pt → Array Value → Prop} {Post : Pt → Array Value → Option Value → Pt → Prop} {PostX : Pt → Array Value → Addr → Pt → Prop} (hK : vx_Back l R p e below s args y 3 W9 Pre Post PostX)
    {b : Addr} {cellB : Cell} (hcell : T.heap[b]? = some cellB) (hobj : cellB.vm.isStatics = false) (hcls : s.vm.findClass C = some cellB.cls)
    {g : JFrame} (hg : g.method = m) (hsize : g.locals.size = c.maxLocals) {argsL rest : List Value} (hlen : ∀ sig, parseMethodDescriptor y.desc = some sig → argsL.length = sig.parameters.length)
    (hstack : g.stack = argsL.reverse ++ .ref b :: rest) (hW : 2 * g.monitorRoom + (rest.map fun v => v.category).sum ≤ W9) (hdg : decode c.code g.pc = .ok (.invokevirtual index, 3))
    (hpre : ∀ vm₁, s.WarmedH vm₁ → Pre ⟨T.setVm vm₁, locs, cells, slots⟩ (Value.ref b :: argsL).toArray) :
    (∃ (v : Option Value) (vm₁ : Vm) (B : Pt), s.WarmedH vm₁ ∧ Stand p l e R s m args below meth c B.U B.locs B.cells B.slots ∧ Post ⟨T.setVm vm₁, locs, cells, slots⟩ (Value.ref b :: argsL).toArray v B ∧
      ∀ target, Steps p.tables e below (B.U.setTop { g with pc := g.pc + 3, stack := v.toList ++ rest }) target → Steps p.tables e below (T.setTop g) target) ∨
    (∃ (q : Addr) (vm₁ : Vm) (B : Pt), s.WarmedH vm₁ ∧ Stand p l e R s m args below meth c B.U B.locs B.cells B.slots ∧ PostX ⟨T.setVm vm₁, locs, cells, slots⟩ (Value.ref b :: argsL).toArray q B ∧
      Steps p.tables e below (T.setTop g) ((B.U.setTop { g with stack := rest }).pushFrame (.throwing q))) := by
  obtain ⟨mk, methM, hnamed, hmethM, hstM, habM⟩ := Cond.instanceMethod_spec hinst
  obtain ⟨methM', cM, hmethM', -, -, -, -, -, -, hsigM⟩ := Cond.code_spec hnamed hcode
  cases hmethM.symm.trans hmethM'
  obtain ⟨c2, r2, m2, q1, q2, q3, q4, kP, hkP, hkPi⟩ := Cond.selects_spec hsel
  cases hcls.symm.trans q1
  cases (State.methodFound?_of_named hnamed hy).symm.trans q2
  cases hnamed.symm.trans q3
  have hselP : selectMethod e.platform s.vm cellB.cls mk = .method mk := by rw [Launch.admits_selectMethod X.admits]; exact q4
  obtain ⟨vm₁, X₁, hstep₁⟩ := X.invokevirtual hexec hown hlink hnamed hmethM hstM hkP hkPi hy (a := b) (cell := cellB) hcell
    (fun z h => by rw [h] at hobj; cases hobj) hselP hmethM habM hkP hkPi (g := g) hg (argsL := argsL) (rest := rest) (hlen _ hsigM) hstack hdg
  rcases hK m meth c ⟨T.setVm vm₁, locs, cells, slots⟩ { g with stack := rest } (.invokevirtual index) mk (Value.ref b :: argsL).toArray X₁ hg hsize hdg hW (X₁.named hnamed) (hpre vm₁ X₁.warmed) with ⟨v, B, X', hpost, hsteps⟩ | ⟨q, B, X', hpost, hsteps⟩
  · exact Or.inl ⟨v, vm₁, B, X₁.warmed, X', hpost, fun target h => hstep₁ _ fun acts => by rw [doInvoke_state]; exact hsteps.trans h⟩
  · exact Or.inr ⟨q, vm₁, B, X₁.warmed, X', hpost, hstep₁ _ fun acts => by rw [doInvoke_state]; exact hsteps⟩
theorem vx_callS (X : Stand p l e R s m args below meth c T locs cells slots) (hexec : p.tables.exec = Jvm.exec) {own : String} {index : Nat} {y : MethodName} {bytes : ByteArray} {maxL : Nat} {ret : Option FieldType}
    (hown : s.vm.findClass own = some m.cls) (hlink : (Cond.methodLink own index y).before args s = true) (hstat : (Cond.static y).before args s = true) (hinit : (Cond.initialized y.cls).before args s = true)
    (hcode : (Cond.code y bytes maxL ret).before args s = true) (hy : y.cls ≠ "java/lang/invoke/MethodHandle" ∧ y.cls ≠ "java/lang/invoke/VarHandle")
    {W9 : Nat} {Pre : Pt → Array Value → Prop} {Post : Pt → Array Value → Option Value → Pt → Prop} {PostX : Pt → Array Value → Addr → Pt → Prop} (hK : vx_Back l R p e below s args y 3 W9 Pre Post PostX)
    {g : JFrame} (hg : g.method = m) (hsize : g.locals.size = c.maxLocals) {argsL rest : List Value} (hlen : ∀ sig, parseMethodDescriptor y.desc = some sig → argsL.length = sig.parameters.length)
    (hstack : g.stack = argsL.reverse ++ rest) (hW : 2 * g.monitorRoom + (rest.map fun v => v.category).sum ≤ W9) (hdg : decode c.code g.pc = .ok (.invokestatic index, 3))
    (hpre : ∀ vm₁, s.WarmedH vm₁ → Pre ⟨T.setVm vm₁, locs, cells, slots⟩ argsL.toArray) :
    (∃ (v : Option Value) (vm₁ : Vm) (B : Pt), s.WarmedH vm₁ ∧ Stand p l e R s m args below meth c B.U B.locs B.cells B.slots ∧ Post ⟨T.setVm vm₁, locs, cells, slots⟩ argsL.toArray v B ∧
      ∀ target, Steps p.tables e below (B.U.setTop { g with pc := g.pc + 3, stack := v.toList ++ rest }) target → Steps p.tables e below (T.setTop g) target) ∨
    (∃ (q : Addr) (vm₁ : Vm) (B : Pt), s.WarmedH vm₁ ∧ Stand p l e R s m args below meth c B.U B.locs B.cells B.slots ∧ PostX ⟨T.setVm vm₁, locs, cells, slots⟩ argsL.toArray q B ∧
      Steps p.tables e below (T.setTop g) ((B.U.setTop { g with stack := rest }).pushFrame (.throwing q))) := by
  obtain ⟨mk, hnamed⟩ := Cond.code_named hcode
  obtain ⟨methM, cM, hmethM, -, -, -, -, -, -, hsigM⟩ := Cond.code_spec hnamed hcode
  have hstatic : methM.isStatic = true := Cond.static_spec hnamed hmethM hstat
  obtain ⟨kP, hkP, -⟩ := className_of_methodNamed hnamed
  have hinitP : kP.init = .initialized := Cond.initialized_spec (findClass_of_methodNamed hnamed) hkP hinit
  obtain ⟨vm₁, X₁, hstep₁⟩ := X.invokestatic hexec hown hlink hnamed hmethM hstatic hkP hinitP hy (g := g) hg (argsL := argsL) (rest := rest) (hlen _ hsigM) hstack hdg
  rcases hK m meth c ⟨T.setVm vm₁, locs, cells, slots⟩ { g with stack := rest } (.invokestatic index) mk argsL.toArray X₁ hg hsize hdg hW (X₁.named hnamed) (hpre vm₁ X₁.warmed) with ⟨v, B, X', hpost, hsteps⟩ | ⟨q, B, X', hpost, hsteps⟩
  · exact Or.inl ⟨v, vm₁, B, X₁.warmed, X', hpost, fun target h => hstep₁ _ fun acts => by rw [doInvoke_state]; exact hsteps.trans h⟩
  · exact Or.inr ⟨q, vm₁, B, X₁.warmed, X', hpost, hstep₁ _ fun acts => by rw [doInvoke_state]; exact hsteps⟩
end Calls
theorem vx_cls {s : State} {T : State} {vm₁ : Vm} {E : String} {k : ClassId} (hW : s.WarmedH vm₁) (h : (T.setVm vm₁).vm.findClass E = some k) : s.vm.findClass E = some k := by
  have h1 : vm₁.findClass E = some k := h
  rw [hW.alike.findClass] at h1
  exact h1
/-- the method's frame g, with q thrown over it -/
def vx_W (p : Program) (l : Launch) (e : Env) (R : Room) (s : State) (m : MethodId) (args : Array Value) (below : List Frame) (meth : Method) (c : Code) (H : Heap) (locs : List Loc) (cells slots : Nat) (Q : State → Prop) (g : JFrame) (q : Addr) : Prop :=
  ∀ T : State, T.heap = H → Stand p l e R s m args below meth c T locs cells slots → ∃ t, Steps p.tables e below ((T.setTop g).pushFrame (.throwing q)) t ∧ Q t
def vx_Run (p : Program) (l : Launch) (e : Env) (R : Room) (s : State) (m : MethodId) (args : Array Value) (below : List Frame) (meth : Method) (c : Code) (H : Heap) (locs : List Loc) (cells slots mc ms : Nat) (g : JFrame) (rest : List Value) (Qa : State → Outcome → State → Prop) (XC : String → State → State → Prop) (free : Addr → Prop) : Prop :=
  ∀ T : State, T.heap = H → Stand p l e R s m args below meth c T locs cells slots →
    (∃ (v : Option Value) (st₀ t T' : State) (L : List Loc), st₀.heap = H ∧ Stand p l e R s m args below meth c T' (locs ++ L) (cells + mc) (slots + ms) ∧ (∀ q ∈ L, free q.base) ∧ T'.heap = t.heap ∧ T'.vm = t.vm ∧ Qa st₀ (.returned v) t ∧
      Goes p e below T g T' { g with pc := g.pc + 3, stack := v.toList ++ rest }) ∨
    (∃ (q : Addr) (st₀ t T' : State) (L : List Loc) (E : String) (ce : Cell), st₀.heap = H ∧ Stand p l e R s m args below meth c T' (locs ++ L) (cells + mc) (slots + ms) ∧ (∀ z ∈ L, free z.base) ∧ T'.heap = t.heap ∧ T'.vm = t.vm ∧ XC E st₀ t ∧ t.heap[q]? = some ce ∧ ce.vm = .none ∧ s.vm.findClass E = some ce.cls ∧
      Steps p.tables e below (T.setTop g) ((T'.setTop { g with stack := rest }).pushFrame (.throwing q)))
def vx_X {S : Type} (px : S → Prop) (B : String → S → State → Prop) (A : Nat → Prop) : String → State → State → Prop := fun E st t => ∃ u : S, px u ∧ B E u t ∧ va_F A st t
section Runs
variable {p : Program} {l : Launch} {e : Env} {R : Room} {s : State} {m : MethodId} {args : Array Value} {below : List Frame} {meth : Method} {c : Code} {H : Heap} {locs : List Loc} {cells slots : Nat}
variable {y : MethodName} {bytes cc : ByteArray} {maxL nL mc ms n index : Nat} {ret : Option FieldType} {ws : List Cond} {rm : Room} {Pc : Array Value → State → Prop} {Qc : Array Value → State → Outcome → State → Prop} {XC : String → State → State → Prop} {free : Addr → Prop} {Ts : List Cond} {own C : String} {b : Addr} {As rest : List Value} {g : JFrame}
theorem vx_callBack (cb : CallB R s args own index y bytes maxL ret ws rm mc ms n) (hM : vx_Met l y ws rm Pc Qc XC mc ms free) (hbl : FrameBlind Pc) : vx_Back l R p e below s args y 3 8 (PreOf R mc ms Pc) (PostOf Qc mc ms free) (vx_Post XC mc ms free) := by
  obtain ⟨hrc, hrs, hfr, hlo, hws, hcw, -, hini, -⟩ := cb
  exact vx_back (bytes := bytes) (maxL := maxL) (ret := ret) hM hbl hrc hrs hfr hlo hws hcw (fun a' U hW => word_at hW (Or.inl (by first | rfl | simp [Cond.onTables, Cond.keeps, Cond.steady])) hini)
theorem vx_runV (S : CallFix p m c cc nL s args Ts own) (hM : vx_Met l y ws rm Pc Qc XC mc ms free) (cw : CallW R s args own C index y bytes maxL ret ws rm mc ms n) (hp : PreV s H C b Pc As)
    (hg : g.method = m) (hn : As.length = n) (hsize : g.locals.size = nL) (hstack : g.stack = As.reverse ++ .ref b :: rest) (hW : 2 * g.monitorRoom + (rest.map fun v => v.category).sum ≤ 8) (hdg : decode cc g.pc = .ok (.invokevirtual index, 3)) (hf : cells + mc ≤ R.cells ∧ slots + ms ≤ R.slots) :
    vx_Run p l e R s m args below meth c H locs cells slots mc ms g rest (Qc (Value.ref b :: As).toArray) XC free := by
  have hK : vx_Back l R p e below s args y 3 8 (PreOf R mc ms Pc) (PostOf Qc mc ms free) (vx_Post XC mc ms free) := vx_callBack cw.1 hM hp.1
  obtain ⟨⟨-, -, -, -, -, -, hcode, -, hy, hlen, hl⟩, hin, hse⟩ := cw
  obtain ⟨hx, hb, hml, ho, -⟩ := S
  obtain ⟨-, ⟨cellB, hcB, hoB, hclB⟩, hPc⟩ := hp
  intro T hT X
  rcases vx_callV X hx (C := C) (bytes := bytes) (maxL := maxL) (ret := ret) ho hl hin hse hcode hy hK (by rw [hT]; exact hcB) hoB hclB hg (hsize.trans hml.symm) (argsL := As) (rest := rest) (fun sig h => hn.trans (hlen sig h)) hstack hW (by rw [hb]; exact hdg)
    (fun vm₁ hW₁ => ⟨hf.1, hf.2, hPc (T.setVm vm₁) hT hW₁⟩) with ⟨v, vm₁, ⟨U', l2, c2, s2⟩, hW₁, X', ⟨g', mk, t, L, e1, e2, hq, h1, hL, h2, h3⟩, st⟩ | ⟨q, vm₁, ⟨U', l2, c2, s2⟩, hW₁, X', ⟨g', mk, t, L, E, ce, e1, e2, hq, hce, hcv, hcl, h1, hL, h2, h3⟩, st⟩
  · dsimp only [Pt.U, Pt.locs, Pt.cells, Pt.slots] at X' e1 e2 h1 h2 h3 st
    subst h1; subst h2; subst h3
    exact Or.inl ⟨v, (T.setVm vm₁).calling g' mk (Value.ref b :: As).toArray, t, U', L, hT, X', hL, e1, e2, hq, st⟩
  · dsimp only [Pt.U, Pt.locs, Pt.cells, Pt.slots] at X' e1 e2 h1 h2 h3 st hcl
    subst h1; subst h2; subst h3
    exact Or.inr ⟨q, (T.setVm vm₁).calling g' mk (Value.ref b :: As).toArray, t, U', L, E, ce, hT, X', hL, e1, e2, hq, hce, hcv, vx_cls hW₁ hcl, st⟩
theorem vx_runS (S : CallFix p m c cc nL s args Ts own) (hM : vx_Met l y ws rm Pc Qc XC mc ms free) (cw : CallB R s args own index y bytes maxL ret ws rm mc ms n ∧ (Cond.static y).before args s = true) (hp : PreS s H Pc As)
    (hg : g.method = m) (hn : As.length = n) (hsize : g.locals.size = nL) (hstack : g.stack = As.reverse ++ rest) (hW : 2 * g.monitorRoom + (rest.map fun v => v.category).sum ≤ 8) (hdg : decode cc g.pc = .ok (.invokestatic index, 3)) (hf : cells + mc ≤ R.cells ∧ slots + ms ≤ R.slots) :
    vx_Run p l e R s m args below meth c H locs cells slots mc ms g rest (Qc As.toArray) XC free := by
  have hK : vx_Back l R p e below s args y 3 8 (PreOf R mc ms Pc) (PostOf Qc mc ms free) (vx_Post XC mc ms free) := vx_callBack cw.1 hM hp.1
  obtain ⟨⟨-, -, -, -, -, -, hcode, hini, hy, hlen, hl⟩, hstt⟩ := cw
  obtain ⟨hx, hb, hml, ho, -⟩ := S
  intro T hT X
  rcases vx_callS X hx (bytes := bytes) (maxL := maxL) (ret := ret) ho hl hstt hini hcode hy hK hg (hsize.trans hml.symm) (argsL := As) (rest := rest) (fun sig h => hn.trans (hlen sig h)) hstack hW (by rw [hb]; exact hdg)
    (fun vm₁ hW₁ => ⟨hf.1, hf.2, hp.2 (T.setVm vm₁) hT hW₁⟩) with ⟨v, vm₁, ⟨U', l2, c2, s2⟩, hW₁, X', ⟨g', mk, t, L, e1, e2, hq, h1, hL, h2, h3⟩, st⟩ | ⟨q, vm₁, ⟨U', l2, c2, s2⟩, hW₁, X', ⟨g', mk, t, L, E, ce, e1, e2, hq, hce, hcv, hcl, h1, hL, h2, h3⟩, st⟩
  · dsimp only [Pt.U, Pt.locs, Pt.cells, Pt.slots] at X' e1 e2 h1 h2 h3 st
    subst h1; subst h2; subst h3
    exact Or.inl ⟨v, (T.setVm vm₁).calling g' mk As.toArray, t, U', L, hT, X', hL, e1, e2, hq, st⟩
  · dsimp only [Pt.U, Pt.locs, Pt.cells, Pt.slots] at X' e1 e2 h1 h2 h3 st hcl
    subst h1; subst h2; subst h3
    exact Or.inr ⟨q, (T.setVm vm₁).calling g' mk As.toArray, t, U', L, E, ce, hT, X', hL, e1, e2, hq, hce, hcv, vx_cls hW₁ hcl, st⟩
end Runs
section Rows
variable {p : Program} {l : Launch} {e : Env} {R : Room} {s : State} {m : MethodId} {args : Array Value} {below : List Frame} {meth : Method} {c : Code} {H : Heap} {locs : List Loc} {cells slots : Nat} {Q : State → Prop}
variable {mc ms : Nat} {free : Addr → Prop} {A0 A1 : Nat → Prop} {H0 : Heap} {a : Array Value} {pc : Nat} {ls : Array Slot} {st0 rest : List Value}
theorem vx_keep {st₀ t T' : State} {L : List Loc} (h0 : st₀.heap = H) (e1 : T'.heap = t.heap) (hS : va_S A0 H0 H locs) (hA : ∀ q, q < H.size → A1 q → A0 q) (hf : ∀ q, free q → A0 q) (hL : ∀ q ∈ L, free q.base) (hF : va_F A1 st₀ t) :
    H.size ≤ T'.heap.size ∧ (∀ q : Nat, q < H.size → ¬ A1 q → T'.heap[q]? = H[q]?) ∧ va_S A0 H0 T'.heap (locs ++ L) := by
  obtain ⟨hz, hk⟩ := hF
  rw [h0] at hz hk
  exact ⟨by rw [e1]; exact hz, fun q h1 h2 => by rw [e1]; exact hk q h1 h2,
    ⟨Nat.le_trans hS.1 (by rw [e1]; exact hz), fun q h1 h2 => by rw [e1, hk q (Nat.lt_of_lt_of_le h1 hS.1) (fun z => h2 (hA q (Nat.lt_of_lt_of_le h1 hS.1) z))]; exact hS.2.1 q h1 h2, fun q hq => by
      rcases List.mem_append.mp hq with h | h
      · exact hS.2.2 q h
      · exact hf _ (hL q h)⟩⟩
theorem vx_calli {S SX : Type} {post : Int32 → S → Prop} {px : SX → Prop} {B : S → State → Prop} {BX : String → SX → State → Prop} {AX : Nat → Prop} (hr : vx_Run p l e R s m args below meth c H locs cells slots mc ms (F0 m pc ls st0) rest (va_Qi post B A1 a) (vx_X px BX AX) free) (hS : va_S A0 H0 H locs) (hA : ∀ q, q < H.size → A1 q → A0 q) (hf : ∀ q, free q → A0 q) (hAX : ∀ q, q < H.size → AX q → A0 q)
    (kx : ∀ (E : String) (ce : Cell) (q9 : Addr) (u : SX) (t : State) (H1 : Heap) (locs1 : List Loc), t.heap = H1 → s.vm.Alike t.vm → px u → BX E u t → H.size ≤ H1.size → (∀ q : Nat, q < H.size → ¬ AX q → H1[q]? = H[q]?) → va_S A0 H0 H1 locs1 → H1[q9]? = some ce → ce.vm = .none → s.vm.findClass E = some ce.cls → vx_W p l e R s m args below meth c H1 locs1 (cells + mc) (slots + ms) Q (F0 m pc ls rest) q9)
    (kk : ∀ (r : Int32) (u : S) (t : State) (H1 : Heap) (locs1 : List Loc), t.heap = H1 → s.vm.Alike t.vm → post r u → B u t → H.size ≤ H1.size → (∀ q : Nat, q < H.size → ¬ A1 q → H1[q]? = H[q]?) → va_S A0 H0 H1 locs1 → W p l e R s m args below meth c H1 locs1 (cells + mc) (slots + ms) Q (F0 m (pc + 3) ls (.int r :: rest))) : W p l e R s m args below meth c H locs cells slots Q (F0 m pc ls st0) := by
  intro T hT X
  rcases hr T hT X with ⟨v, st₀, t, T', L, h0, X', hL, e1, e2, ⟨⟨r, u, hv, hp, hb⟩, hF⟩, st⟩ | ⟨q, st₀, t, T', L, E, ce, h0, X', hL, e1, e2, ⟨u, hp, hb, hF⟩, hce, hcv, hcl, st⟩
  · cases hv
    obtain ⟨k1, k2, k3⟩ := vx_keep h0 e1 hS hA hf hL hF
    obtain ⟨t2, a1, b1⟩ := kk r u t T'.heap (locs ++ L) e1.symm (by rw [← e2]; exact X'.warmed.alike) hp hb k1 k2 k3 T' rfl X'
    exact ⟨t2, st t2 a1, b1⟩
  · obtain ⟨k1, k2, k3⟩ := vx_keep h0 e1 hS hAX hf hL hF
    obtain ⟨t2, a1, b1⟩ := kx E ce q u t T'.heap (locs ++ L) e1.symm (by rw [← e2]; exact X'.warmed.alike) hp hb k1 k2 k3 (by rw [e1]; exact hce) hcv hcl T' rfl X'
    exact ⟨t2, st.trans a1, b1⟩
theorem vx_calll {S SX : Type} {post : Int64 → S → Prop} {px : SX → Prop} {B : S → State → Prop} {BX : String → SX → State → Prop} {AX : Nat → Prop} (hr : vx_Run p l e R s m args below meth c H locs cells slots mc ms (F0 m pc ls st0) rest (va_Ql post B A1 a) (vx_X px BX AX) free) (hS : va_S A0 H0 H locs) (hA : ∀ q, q < H.size → A1 q → A0 q) (hf : ∀ q, free q → A0 q) (hAX : ∀ q, q < H.size → AX q → A0 q)
    (kx : ∀ (E : String) (ce : Cell) (q9 : Addr) (u : SX) (t : State) (H1 : Heap) (locs1 : List Loc), t.heap = H1 → s.vm.Alike t.vm → px u → BX E u t → H.size ≤ H1.size → (∀ q : Nat, q < H.size → ¬ AX q → H1[q]? = H[q]?) → va_S A0 H0 H1 locs1 → H1[q9]? = some ce → ce.vm = .none → s.vm.findClass E = some ce.cls → vx_W p l e R s m args below meth c H1 locs1 (cells + mc) (slots + ms) Q (F0 m pc ls rest) q9)
    (kk : ∀ (r : Int64) (u : S) (t : State) (H1 : Heap) (locs1 : List Loc), t.heap = H1 → s.vm.Alike t.vm → post r u → B u t → H.size ≤ H1.size → (∀ q : Nat, q < H.size → ¬ A1 q → H1[q]? = H[q]?) → va_S A0 H0 H1 locs1 → W p l e R s m args below meth c H1 locs1 (cells + mc) (slots + ms) Q (F0 m (pc + 3) ls (.long r :: rest))) : W p l e R s m args below meth c H locs cells slots Q (F0 m pc ls st0) := by
  intro T hT X
  rcases hr T hT X with ⟨v, st₀, t, T', L, h0, X', hL, e1, e2, ⟨⟨r, u, hv, hp, hb⟩, hF⟩, st⟩ | ⟨q, st₀, t, T', L, E, ce, h0, X', hL, e1, e2, ⟨u, hp, hb, hF⟩, hce, hcv, hcl, st⟩
  · cases hv
    obtain ⟨k1, k2, k3⟩ := vx_keep h0 e1 hS hA hf hL hF
    obtain ⟨t2, a1, b1⟩ := kk r u t T'.heap (locs ++ L) e1.symm (by rw [← e2]; exact X'.warmed.alike) hp hb k1 k2 k3 T' rfl X'
    exact ⟨t2, st t2 a1, b1⟩
  · obtain ⟨k1, k2, k3⟩ := vx_keep h0 e1 hS hAX hf hL hF
    obtain ⟨t2, a1, b1⟩ := kx E ce q u t T'.heap (locs ++ L) e1.symm (by rw [← e2]; exact X'.warmed.alike) hp hb k1 k2 k3 (by rw [e1]; exact hce) hcv hcl T' rfl X'
    exact ⟨t2, st.trans a1, b1⟩
theorem vx_callf {S SX : Type} {post : UInt32 → S → Prop} {px : SX → Prop} {B : S → State → Prop} {BX : String → SX → State → Prop} {AX : Nat → Prop} (hr : vx_Run p l e R s m args below meth c H locs cells slots mc ms (F0 m pc ls st0) rest (va_Qf post B A1 a) (vx_X px BX AX) free) (hS : va_S A0 H0 H locs) (hA : ∀ q, q < H.size → A1 q → A0 q) (hf : ∀ q, free q → A0 q) (hAX : ∀ q, q < H.size → AX q → A0 q)
    (kx : ∀ (E : String) (ce : Cell) (q9 : Addr) (u : SX) (t : State) (H1 : Heap) (locs1 : List Loc), t.heap = H1 → s.vm.Alike t.vm → px u → BX E u t → H.size ≤ H1.size → (∀ q : Nat, q < H.size → ¬ AX q → H1[q]? = H[q]?) → va_S A0 H0 H1 locs1 → H1[q9]? = some ce → ce.vm = .none → s.vm.findClass E = some ce.cls → vx_W p l e R s m args below meth c H1 locs1 (cells + mc) (slots + ms) Q (F0 m pc ls rest) q9)
    (kk : ∀ (r : UInt32) (u : S) (t : State) (H1 : Heap) (locs1 : List Loc), t.heap = H1 → s.vm.Alike t.vm → post r u → B u t → H.size ≤ H1.size → (∀ q : Nat, q < H.size → ¬ A1 q → H1[q]? = H[q]?) → va_S A0 H0 H1 locs1 → W p l e R s m args below meth c H1 locs1 (cells + mc) (slots + ms) Q (F0 m (pc + 3) ls (.float r :: rest))) : W p l e R s m args below meth c H locs cells slots Q (F0 m pc ls st0) := by
  intro T hT X
  rcases hr T hT X with ⟨v, st₀, t, T', L, h0, X', hL, e1, e2, ⟨⟨r, u, hv, hp, hb⟩, hF⟩, st⟩ | ⟨q, st₀, t, T', L, E, ce, h0, X', hL, e1, e2, ⟨u, hp, hb, hF⟩, hce, hcv, hcl, st⟩
  · cases hv
    obtain ⟨k1, k2, k3⟩ := vx_keep h0 e1 hS hA hf hL hF
    obtain ⟨t2, a1, b1⟩ := kk r u t T'.heap (locs ++ L) e1.symm (by rw [← e2]; exact X'.warmed.alike) hp hb k1 k2 k3 T' rfl X'
    exact ⟨t2, st t2 a1, b1⟩
  · obtain ⟨k1, k2, k3⟩ := vx_keep h0 e1 hS hAX hf hL hF
    obtain ⟨t2, a1, b1⟩ := kx E ce q u t T'.heap (locs ++ L) e1.symm (by rw [← e2]; exact X'.warmed.alike) hp hb k1 k2 k3 (by rw [e1]; exact hce) hcv hcl T' rfl X'
    exact ⟨t2, st.trans a1, b1⟩
theorem vx_calld {S SX : Type} {post : UInt64 → S → Prop} {px : SX → Prop} {B : S → State → Prop} {BX : String → SX → State → Prop} {AX : Nat → Prop} (hr : vx_Run p l e R s m args below meth c H locs cells slots mc ms (F0 m pc ls st0) rest (va_Qd post B A1 a) (vx_X px BX AX) free) (hS : va_S A0 H0 H locs) (hA : ∀ q, q < H.size → A1 q → A0 q) (hf : ∀ q, free q → A0 q) (hAX : ∀ q, q < H.size → AX q → A0 q)
    (kx : ∀ (E : String) (ce : Cell) (q9 : Addr) (u : SX) (t : State) (H1 : Heap) (locs1 : List Loc), t.heap = H1 → s.vm.Alike t.vm → px u → BX E u t → H.size ≤ H1.size → (∀ q : Nat, q < H.size → ¬ AX q → H1[q]? = H[q]?) → va_S A0 H0 H1 locs1 → H1[q9]? = some ce → ce.vm = .none → s.vm.findClass E = some ce.cls → vx_W p l e R s m args below meth c H1 locs1 (cells + mc) (slots + ms) Q (F0 m pc ls rest) q9)
    (kk : ∀ (r : UInt64) (u : S) (t : State) (H1 : Heap) (locs1 : List Loc), t.heap = H1 → s.vm.Alike t.vm → post r u → B u t → H.size ≤ H1.size → (∀ q : Nat, q < H.size → ¬ A1 q → H1[q]? = H[q]?) → va_S A0 H0 H1 locs1 → W p l e R s m args below meth c H1 locs1 (cells + mc) (slots + ms) Q (F0 m (pc + 3) ls (.double r :: rest))) : W p l e R s m args below meth c H locs cells slots Q (F0 m pc ls st0) := by
  intro T hT X
  rcases hr T hT X with ⟨v, st₀, t, T', L, h0, X', hL, e1, e2, ⟨⟨r, u, hv, hp, hb⟩, hF⟩, st⟩ | ⟨q, st₀, t, T', L, E, ce, h0, X', hL, e1, e2, ⟨u, hp, hb, hF⟩, hce, hcv, hcl, st⟩
  · cases hv
    obtain ⟨k1, k2, k3⟩ := vx_keep h0 e1 hS hA hf hL hF
    obtain ⟨t2, a1, b1⟩ := kk r u t T'.heap (locs ++ L) e1.symm (by rw [← e2]; exact X'.warmed.alike) hp hb k1 k2 k3 T' rfl X'
    exact ⟨t2, st t2 a1, b1⟩
  · obtain ⟨k1, k2, k3⟩ := vx_keep h0 e1 hS hAX hf hL hF
    obtain ⟨t2, a1, b1⟩ := kx E ce q u t T'.heap (locs ++ L) e1.symm (by rw [← e2]; exact X'.warmed.alike) hp hb k1 k2 k3 (by rw [e1]; exact hce) hcv hcl T' rfl X'
    exact ⟨t2, st.trans a1, b1⟩
theorem vx_callv {S SX : Type} {post : S → Prop} {px : SX → Prop} {B : S → State → Prop} {BX : String → SX → State → Prop} {AX : Nat → Prop} (hr : vx_Run p l e R s m args below meth c H locs cells slots mc ms (F0 m pc ls st0) rest (va_Qv post B A1 a) (vx_X px BX AX) free) (hS : va_S A0 H0 H locs) (hA : ∀ q, q < H.size → A1 q → A0 q) (hf : ∀ q, free q → A0 q) (hAX : ∀ q, q < H.size → AX q → A0 q)
    (kx : ∀ (E : String) (ce : Cell) (q9 : Addr) (u : SX) (t : State) (H1 : Heap) (locs1 : List Loc), t.heap = H1 → s.vm.Alike t.vm → px u → BX E u t → H.size ≤ H1.size → (∀ q : Nat, q < H.size → ¬ AX q → H1[q]? = H[q]?) → va_S A0 H0 H1 locs1 → H1[q9]? = some ce → ce.vm = .none → s.vm.findClass E = some ce.cls → vx_W p l e R s m args below meth c H1 locs1 (cells + mc) (slots + ms) Q (F0 m pc ls rest) q9)
    (kk : ∀ (u : S) (t : State) (H1 : Heap) (locs1 : List Loc), t.heap = H1 → s.vm.Alike t.vm → post u → B u t → H.size ≤ H1.size → (∀ q : Nat, q < H.size → ¬ A1 q → H1[q]? = H[q]?) → va_S A0 H0 H1 locs1 → W p l e R s m args below meth c H1 locs1 (cells + mc) (slots + ms) Q (F0 m (pc + 3) ls (rest))) : W p l e R s m args below meth c H locs cells slots Q (F0 m pc ls st0) := by
  intro T hT X
  rcases hr T hT X with ⟨v, st₀, t, T', L, h0, X', hL, e1, e2, ⟨⟨u, hv, hp, hb⟩, hF⟩, st⟩ | ⟨q, st₀, t, T', L, E, ce, h0, X', hL, e1, e2, ⟨u, hp, hb, hF⟩, hce, hcv, hcl, st⟩
  · cases hv
    obtain ⟨k1, k2, k3⟩ := vx_keep h0 e1 hS hA hf hL hF
    obtain ⟨t2, a1, b1⟩ := kk u t T'.heap (locs ++ L) e1.symm (by rw [← e2]; exact X'.warmed.alike) hp hb k1 k2 k3 T' rfl X'
    exact ⟨t2, st t2 a1, b1⟩
  · obtain ⟨k1, k2, k3⟩ := vx_keep h0 e1 hS hAX hf hL hF
    obtain ⟨t2, a1, b1⟩ := kx E ce q u t T'.heap (locs ++ L) e1.symm (by rw [← e2]; exact X'.warmed.alike) hp hb k1 k2 k3 (by rw [e1]; exact hce) hcv hcl T' rfl X'
    exact ⟨t2, st.trans a1, b1⟩
/-- caught by the row x of this method's table; the rows ahead don't take it -/
theorem vx_catch {own name : String} {E : String} {ce : Cell} {q : Addr} (hown : s.vm.findClass own = some m.cls) (pre : List ExceptionTableEntry) (x : ExceptionTableEntry) (suf : List ExceptionTableEntry) (hsplit : c.exceptionTable.toList = pre ++ x :: suf)
    (hpass : ∀ z ∈ pre, covers z pc = false ∨ (z.catchType ≠ 0 ∧ ∃ nm : String, (Cond.classLink own z.catchType nm).before args s = true ∧ va_Nc E nm s)) (hx : covers x pc = true) (h0 : x.catchType ≠ 0)
    (hlink : (Cond.classLink own x.catchType name).before args s = true) (hcast : (Cond.castable E name).before args s = true) (hcell : H[q]? = some ce) (hv : ce.vm = .none) (hcl : s.vm.findClass E = some ce.cls)
    (kk : W p l e R s m args below meth c H locs cells slots Q (F0 m x.handlerPc ls [.ref q])) : vx_W p l e R s m args below meth c H locs cells slots Q (F0 m pc ls rest) q := by
  intro T hT X
  have hpl : e.platform.magicAccessors = ({} : Platform).magicAccessors := by rw [X.admits.platform]
  obtain ⟨c3, c4, hc3, hc4, hasg⟩ := Cond.castable_spec hcast
  cases Option.some.inj (hc3.symm.trans hcl)
  obtain ⟨c5, hc5, hcl5⟩ := Cond.classLink_spec hown hlink e.platform hpl
  cases Option.some.inj (hc4.symm.trans hc5)
  obtain ⟨vm', X', st⟩ := X.thenCaughtThrough q (g := F0 m pc ls rest) rfl (Steps.refl _) (by rw [hT]; exact hcell) (by rw [hv]; rfl) (by obtain ⟨k9, h9, -⟩ := Vm.findClass_spec hcl; exact ⟨k9, h9⟩) pre x suf hsplit
    (fun z hz => by
      rcases hpass z hz with h | ⟨hz0, nm, hl1, hn1⟩
      · exact Or.inl h
      · obtain ⟨c6, hc6, hcl6⟩ := Cond.classLink_spec hown hl1 e.platform hpl
        obtain ⟨a8, b8, h1, h2, h3⟩ := hn1
        cases Option.some.inj (h1.symm.trans hcl)
        cases Option.some.inj (h2.symm.trans hc6)
        exact Or.inr ⟨hz0, _, hcl6, h3⟩) hx (Or.inr ⟨h0, c4, hcl5, hasg⟩)
  obtain ⟨t, a1, b1⟩ := kk (T.setVm vm') hT X'
  exact ⟨t, st.trans a1, b1⟩
end Rows
section Ends
variable {p : Program} {l : Launch} {e : Env} {R : Room} {s : State} {m : MethodId} {args : Array Value} {below : List Frame} {meth : Method} {c : Code} {H : Heap} {locs : List Loc} {cells slots : Nat} {Q : State → Prop}
variable {mc ms : Nat} {free : Addr → Prop} {A0 A1 : Nat → Prop} {H0 : Heap} {a : Array Value} {ls : Array Slot} {st0 rest : List Value}
variable {Qc : Array Value → State → Outcome → State → Prop} {XC : String → State → State → Prop}
/-- what a body that may throw owes at its end -/
def vx_MQ (below : List Frame) (Qc : Array Value → State → Outcome → State → Prop) (XC : String → State → State → Prop) (a : Array Value) (s : State) (mc ms : Nat) (free : Addr → Prop) : State → Prop := fun t =>
  ∃ o, t.status = .running ∧ Ended t below o ∧ vx_Q Qc XC mc ms free a s o t
theorem vx_ret {g : JFrame} {mc ms : Nat} (k : W p l e R s m args below meth c H locs cells slots (MQ below Qc args s mc ms free) g) : W p l e R s m args below meth c H locs cells slots (vx_MQ below Qc XC args s mc ms free) g := by
  intro T hT X
  obtain ⟨t, a1, o, b1, b2, b3, b4⟩ := k T hT X
  exact ⟨t, a1, o, b1, b2, Or.inl ⟨b3, b4⟩⟩
/-- not caught here: it goes on to the caller -/
theorem vx_widen {g : JFrame} {q : Addr} {k n : Nat} (h1 : cells ≤ k) (h2 : slots ≤ n) (kk : vx_W p l e R s m args below meth c H locs k n Q g q) : vx_W p l e R s m args below meth c H locs cells slots Q g q := fun T hT X => kk T hT (stand_widen X h1 h2)
theorem vx_out {pc : Nat} {E : String} {ce : Cell} {q : Addr} {mc ms : Nat} (hout : ∀ x ∈ c.exceptionTable.toList, covers x pc = false) (hlocks : meth.locks = false) (hcell : H[q]? = some ce) (hv : ce.vm = .none) (hcl : s.vm.findClass E = some ce.cls)
    (hx : ∀ t : State, t.heap = H → s.vm.Alike t.vm → XC E s t) (hf : ∀ z ∈ locs, free z.base) (hc : cells ≤ mc) (hs : slots ≤ ms) :
    vx_W p l e R s m args below meth c H locs cells slots (vx_MQ below Qc XC args s mc ms free) (F0 m pc ls rest) q := by
  intro T hT X
  obtain ⟨st1, hrun, hend, hW, hsm⟩ := X.leaveThrown q (g := F0 m pc ls rest) rfl rfl rfl hout hlocks
  have hcell9 : (T.setFrames (.throwing q :: below)).heap[q]? = some ce := by
    show T.heap[q]? = some ce
    rw [hT]; exact hcell
  exact ⟨_, st1, .threw q, hrun, hend, Or.inr ⟨q, rfl, E, ce, locs, hx _ hT hW.alike, hcell9, hv, hcl, hW, hsm.mono hc hs, hf⟩⟩
theorem vx_frame {U : State} {k n : Nat} (h : s.sameButNew ({ U with vm := s.vm } : State) locs k n) : s.heap.size ≤ U.heap.size ∧ ∀ q : Nat, q < s.heap.size → (∀ z ∈ locs, z.base ≠ q) → U.heap[q]? = s.heap[q]? := by
  obtain ⟨-, h2, -, -, -, h6⟩ := h
  refine ⟨h2, fun q hq hz => ?_⟩
  obtain ⟨c9, e1, e2, e3, e4⟩ := h6 q _ (Array.getElem?_eq_getElem hq)
  have hs : c9.slots = (s.heap[q]).slots := Array.ext_getElem? fun i => e4 i fun hm => hz _ hm rfl
  have h9 : c9 = s.heap[q] := by
    rw [hs] at e2
    exact e2
  have e5 : U.heap[q]? = some c9 := e1
  rw [e5, h9, Array.getElem?_eq_getElem hq]
/-- the words of a throw but the four that speak of the heap -/
def vx_no (w : Cond) : Bool := decide (w ≠ .isRef (.static Bundle.tN "UNASSIGNED_STACK" Bundle.steD)) && decide (w ≠ .isRef (.static Bundle.tN "SUPPRESSED_SENTINEL" Bundle.listD)) && decide (w ≠ .laysStatic Bundle.tN "UNASSIGNED_STACK" Bundle.steD) && decide (w ≠ .laysStatic Bundle.tN "SUPPRESSED_SENTINEL" Bundle.listD)
def vx_at0 (own : String) (ic : Nat) (X : String) (names : List String) : List Cond := (Bundle.ownAtoms0 own ic X names).filter vx_no
def vx_atS (own : String) (ic : Nat) (X : String) (names : List String) : List Cond := (Bundle.ownAtoms own ic X names).filter vx_no
/-- a word that the tables alone decide, or a good one -/
def vx_ot (w : Cond) : Bool := w.onTables || goodWord w
theorem vx_ot_at {args a' : Array Value} {s U : State} {w : Cond} (hW : s.WarmedH U.vm) (hvm : s.vm = U.vm) (hg : vx_ot w = true) (h : w.before args s = true) : w.before a' U = true := by
  simp only [vx_ot, Bool.or_eq_true] at hg
  rcases hg with hg | hg
  · exact va_tabs hg hvm h
  · exact word_at hW (good_of_word hg) h
/-- a list's words: the good ones out of the method's own list, the others by premises of their own -/
theorem vx_hat {args : Array Value} {s : State} {L B : List Cond} (h1 : ∀ w ∈ L.filter goodWord, w.before args s = true) (h2 : ∀ w ∈ L.filter (fun w => !goodWord w), w ∈ B) (h3 : ∀ w ∈ B, w.before args s = true) : ∀ w ∈ L, w.before args s = true := by
  intro w hw
  by_cases g : goodWord w = true
  · exact h1 w (List.mem_filter.mpr ⟨hw, g⟩)
  · refine h3 w (h2 w (List.mem_filter.mpr ⟨hw, ?_⟩))
    show (!goodWord w) = true
    cases hgw : goodWord w
    · rfl
    · exact absurd hgw g
theorem vx_c {args : Array Value} {s : State} {w : Cond} {B : List Cond} (h : w.before args s = true) (t : ∀ w ∈ B, w.before args s = true) : ∀ w' ∈ w :: B, w'.before args s = true := fun w' h' => (List.mem_cons.mp h').elim (fun e => by rw [e]; exact h) (t w')
theorem vx_n {args : Array Value} {s : State} : ∀ w ∈ ([] : List Cond), w.before args s = true := fun _ h => nomatch h
theorem vx_own {args : Array Value} {s : State} {L : List Cond} (h1 : ∀ w ∈ L.filter vx_no, w.before args s = true)
    (hU : (Cond.isRef (.static Bundle.tN "UNASSIGNED_STACK" Bundle.steD)).before args s = true) (hN : (Cond.isRef (.static Bundle.tN "SUPPRESSED_SENTINEL" Bundle.listD)).before args s = true)
    (lU : (Cond.laysStatic Bundle.tN "UNASSIGNED_STACK" Bundle.steD).before args s = true) (lN : (Cond.laysStatic Bundle.tN "SUPPRESSED_SENTINEL" Bundle.listD).before args s = true) : ∀ w ∈ L, w.before args s = true := by
  intro w hw
  by_cases e1 : w = .isRef (.static Bundle.tN "UNASSIGNED_STACK" Bundle.steD)
  · rw [e1]; exact hU
  · by_cases e2 : w = .isRef (.static Bundle.tN "SUPPRESSED_SENTINEL" Bundle.listD)
    · rw [e2]; exact hN
    · by_cases e3 : w = .laysStatic Bundle.tN "UNASSIGNED_STACK" Bundle.steD
      · rw [e3]; exact lU
      · by_cases e4 : w = .laysStatic Bundle.tN "SUPPRESSED_SENTINEL" Bundle.listD
        · rw [e4]; exact lN
        · exact h1 w (List.mem_filter.mpr ⟨hw, by unfold vx_no; rw [decide_eq_true e1, decide_eq_true e2, decide_eq_true e3, decide_eq_true e4]; rfl⟩)
/-- where a static field lies, its class's statics cell in H -/
def vx_L (C n d : String) (A : Nat → Prop) (U : State) (H : Heap) : Prop := ∃ (c : ClassId) (k : Class) (i : Nat) (f : Field) (a : Nat) (cell : Cell), U.vm.findClass C = some c ∧ U.fieldFound? C n d = some (c, k, i, f) ∧ f.isStatic = true ∧ k.statics = some a ∧ H[a]? = some cell ∧ cell.vm.isStatics = true ∧ cell.cls = c ∧ f.slot < cell.slots.size ∧ k.staticTypes[f.slot]? = some f.type ∧ ¬ A a
theorem vx_L.moved {C n d : String} {A : Nat → Prop} {u U : State} {H : Heap} (hvm : u.vm.Alike U.vm) (h : vx_L C n d A u H) : vx_L C n d A U H := by
  obtain ⟨c, k, i, f, a, cell, h1, h2, h3, h4, h5, h6, h7, h8, h9, h10⟩ := h
  obtain ⟨k', hi', he⟩ := State.fieldFound?_setVm hvm h2
  exact ⟨c, k', i, f, a, cell, by rw [hvm.findClass]; exact h1, hi', h3, by rw [he]; exact h4, h5, h6, h7, h8, by rw [he]; exact h9, h10⟩
theorem vx_L.kept {C n d : String} {A : Nat → Prop} {U : State} {H H1 : Heap} (h : vx_L C n d A U H) (hq : ∀ a : Nat, a < H.size → ¬ A a → H1[a]? = H[a]?) : vx_L C n d A U H1 := by
  obtain ⟨c, k, i, f, a, cell, h1, h2, h3, h4, h5, h6, h7, h8, h9, h10⟩ := h
  exact ⟨c, k, i, f, a, cell, h1, h2, h3, h4, by rw [hq a (Array.getElem?_eq_some_iff.mp h5).1 h10]; exact h5, h6, h7, h8, h9, h10⟩
theorem vx_L.narrow {C n d : String} {A B : Nat → Prop} {U : State} {H : Heap} (h : vx_L C n d A U H) (hAB : ∀ q, B q → A q) : vx_L C n d B U H := by
  obtain ⟨c, k, i, f, a, cell, h1, h2, h3, h4, h5, h6, h7, h8, h9, h10⟩ := h
  exact ⟨c, k, i, f, a, cell, h1, h2, h3, h4, h5, h6, h7, h8, h9, fun z => h10 (hAB _ z)⟩
theorem vx_L.word {C n d : String} {A : Nat → Prop} {s : State} {args : Array Value} (h : vx_L C n d A s s.heap) : (Cond.laysStatic C n d).before args s = true := by
  obtain ⟨c, k, i, f, a, cell, h1, h2, h3, h4, h5, h6, h7, h8, h9, -⟩ := h
  show (Cond.laysStatic C n d).holds args s none s [] = true
  exact Cond.laysStatic_of h1 h2 h3 h4 h5 h6 h7 h8 h9
/-- .. and what it holds: null or some reference -/
def vx_Zq (C n d : String) (A : Nat → Prop) (U : State) (H : Heap) : Prop := va_Zq C n d A U H ∧ vx_L C n d A U H
theorem vx_Zq.moved {C n d : String} {A : Nat → Prop} {u U : State} {H : Heap} (hvm : u.vm.Alike U.vm) (h : vx_Zq C n d A u H) : vx_Zq C n d A U H := ⟨va_Zq.moved hvm h.1, vx_L.moved hvm h.2⟩
theorem vx_Zq.kept {C n d : String} {A : Nat → Prop} {U : State} {H H1 : Heap} (h : vx_Zq C n d A U H) (hq : ∀ a : Nat, a < H.size → ¬ A a → H1[a]? = H[a]?) : vx_Zq C n d A U H1 := ⟨va_Zq.kept h.1 hq, vx_L.kept h.2 hq⟩
theorem vx_Zq.narrow {C n d : String} {A B : Nat → Prop} {U : State} {H : Heap} (h : vx_Zq C n d A U H) (hAB : ∀ q, B q → A q) : vx_Zq C n d B U H := ⟨va_Zq.narrow h.1 hAB, vx_L.narrow h.2 hAB⟩
theorem vx_Zqof {args : Array Value} {s : State} {C n d : String} {A : Nat → Prop} (hl : (Cond.laysStatic C n d).before args s = true) (hini : (Cond.initialized C).before args s = true) (h : (Cond.isRef (.static C n d)).before args s = true) (hA : ∀ a : Nat, a < s.heap.size → ¬ A a) : vx_Zq C n d A s s.heap := by
  refine ⟨va_Zqof hl hini h hA, ?_⟩
  obtain ⟨c, k, i, f, a, cell, h1, h2, h3, h4, h5, h6, h7, h8, h9⟩ := Cond.laysStatic_spec hl
  exact ⟨c, k, i, f, a, cell, h1, h2, h3, h4, h5, h6, h7, h8, h9, hA a (Array.getElem?_eq_some_iff.mp h5).1⟩
theorem vx_isRef {C n d : String} {v : Value} {A : Nat → Prop} {s : State} {args : Array Value} (h : va_Z C n d v A s s.heap) (hv : v.isRef = true) : (Cond.isRef (.static C n d)).before args s = true := by
  obtain ⟨cf, kf, fi, f, a, cell, h1, h2, h3, h4, h5, h6, h7, -⟩ := h
  have he : (Term.static C n d).eval args s none [] s = some v := by
    simp [Term.eval, State.fieldNamed?, h1, h2, h4, h5, h6, h7]
  simp only [Cond.before, Cond.holds, Cond.value, he]
  cases v <;> simp_all [Value.isRef]
theorem vx_isRefq {C n d : String} {A : Nat → Prop} {s : State} {args : Array Value} (h : va_Zq C n d A s s.heap) : (Cond.isRef (.static C n d)).before args s = true := by
  rcases h with h | ⟨t, h⟩
  · exact vx_isRef h rfl
  · exact vx_isRef h rfl
/-- the same frame, seen from here: as if the method were called anew in this heap -/
theorem vx_rebase {T : State} (X : Stand p l e R s m args below meth c T locs cells slots) {R' : Room} (hf : R'.frames ≤ R.frames) (hl : R'.locals ≤ R.locals) (hc : cells + R'.cells ≤ R.cells) (hs : slots + R'.slots ≤ R.slots) :
    Stand p l e R' ((T.setVm s.vm).setFrames (.invoking m args :: below)) m args below meth c T [] 0 0 := by
  have htop : (T.setVm s.vm).topJava?.isSome := X.here.top
  have hF : ((T.setVm s.vm).setFrames (.invoking m args :: below)).frames = .invoking m args :: below := State.frames_setFrames _ (State.cur_lt_of_top htop)
  obtain ⟨g₀, hg0⟩ := Option.isSome_iff_exists.mp htop
  obtain ⟨r, hr⟩ := State.topJava?_eq_some.mp hg0
  have hl9 : e.platform.stackLimits (T.setVm s.vm).me = e.platform.stackLimits s.me := X.limits
  have hb9 : (T.setVm s.vm).me.stackBytes = s.me.stackBytes := X.bytes
  refine ⟨X.admits, X.cas, X.clock, hF, ?_, X.hears, X.method, X.code, X.here, X.tail, X.warmed, ?_, ?_, ?_⟩
  · have h := X.room
    have hU : ((T.setVm s.vm).setFrames (.invoking m args :: below)).localsInUse = s.localsInUse := by
      rw [State.localsInUse_invoking hF (meth := meth) (c := c) X.method X.code, State.localsInUse_invoking X.frames X.method X.code]
    simp only [State.hasRoom, Bool.and_eq_true, decide_eq_true_eq] at h ⊢
    obtain ⟨⟨⟨⟨h1, h2, h3, h4, h5, h6⟩, h7⟩, h8⟩, h9⟩ := h
    rw [X.frames, List.length_cons] at h2 h3
    have q1 := X.heapSize
    have q2 := X.used
    simp only [hF, hU, List.length_cons, State.stackLimits_setFrames, State.stackBytes_setFrames, hl9, hb9]
    refine ⟨⟨⟨⟨by omega, by omega, by omega, by omega, by omega, h6⟩, ?_⟩, ?_⟩, X.book⟩
    · show T.heap.size + R'.cells ≤ e.platform.maxCells
      omega
    · show T.slotsUsed + R'.slots ≤ e.platform.maxSlots
      omega
  · rw [State.stackLimits_setFrames]; rfl
  · rw [State.stackBytes_setFrames]; rfl
  · refine ⟨?_, Nat.le_refl _, Nat.le_refl _, ?_, ?_, fun a c9 h9 => ⟨c9, h9, rfl, rfl, fun _ _ => rfl⟩⟩
    · obtain ⟨t, ht, -⟩ := State.frames_cons hr
      show T.setVm s.vm = { ((T.setVm s.vm).setFrames (.invoking m args :: below)).setFrames (T.setVm s.vm).frames with heap := T.heap, slotsUsed := T.slotsUsed }
      rw [State.setFrames_setFrames, State.setFrames_self ht]
      rfl
    · show T.slotsUsed = T.slotsUsed + ((T.heap.toList.drop T.heap.size).map (·.slots.size)).sum
      rw [List.drop_eq_nil_of_le (Nat.le_of_eq Array.length_toList)]
      rfl
    · show ((T.heap.toList.drop T.heap.size).map (·.slots.size)).sum ≤ 0
      rw [List.drop_eq_nil_of_le (Nat.le_of_eq Array.length_toList)]
      exact Nat.le_refl _
/-- 'throw new E()': new; dup; invokespecial; athrow -/
theorem vx_throw0 {cc : ByteArray} {pc : Nat} (hexec : p.tables.exec = Jvm.exec) (hb : c.code = cc) (hl : l.stackTraces = false) {own cls : String} {names : List String} {ik ic mc ms : Nat} {A : Nat → Prop}
    (hown : s.vm.findClass own = some m.cls) (hcls : Bundle.fit cls = true) (hnames : ∀ n ∈ names, Bundle.fit n = true)
    (hk : (Cond.classLink own ik cls).before args s = true) (hini : (Cond.initialized cls).before args s = true) (hat : ∀ w ∈ vx_at0 own ic cls names, w.before args s = true)
    (hgood : ∀ w ∈ Cond.classLink own ik cls :: Cond.initialized cls :: vx_at0 own ic cls names, vx_ot w = true)
    (hU : vx_Zq Bundle.tN "UNASSIGNED_STACK" Bundle.steD A s s.heap) (hN : vx_Zq Bundle.tN "SUPPRESSED_SENTINEL" Bundle.listD A s s.heap) (hS : va_S A s.heap H locs) (hsize : ls.size = c.maxLocals)
    (d0 : decode cc pc = .ok (.new ik, 3)) (d3 : decode cc (pc + 3) = .ok (.dup, 1)) (d4 : decode cc (pc + 4) = .ok (.invokespecial ic, 3)) (d7 : decode cc (pc + 7) = .ok (.athrow, 1))
    (hout : ∀ x ∈ c.exceptionTable.toList, covers x (pc + 7) = false)
    (hRframes : names.length + 3 < R.frames) (hRlocals : (rest.map fun v => v.category).sum + (13 * (names.length + 1) + 42) ≤ R.locals) (hRcells : cells + 1 ≤ R.cells) (hRslots : slots + 6 ≤ R.slots) (hlocks : meth.locks = false)
    (hx : ∀ t : State, s.vm.Alike t.vm → H.size ≤ t.heap.size → (∀ q : Nat, q < H.size → t.heap[q]? = H[q]?) → XC cls s t)
    (hf : ∀ z ∈ locs, free z.base) (hc : cells + 1 ≤ mc) (hs : slots + 6 ≤ ms) :
    W p l e R s m args below meth c H locs cells slots (vx_MQ below Qc XC args s mc ms free) (F0 m pc ls rest) := by
  intro T hT X
  have htr : e.platform.stackTraces = false := (show e.platform.stackTraces = l.stackTraces by rw [X.admits.platform]).trans hl
  have Y := vx_rebase X (R' := { frames := R.frames, locals := R.locals, cells := 1, slots := 6 }) (Nat.le_refl _) (Nat.le_refl _) hRcells hRslots
  obtain ⟨s', hA⟩ : ∃ z, z = (T.setVm s.vm).setFrames (.invoking m args :: below) := ⟨_, rfl⟩
  rw [← hA] at Y
  have hvm : s'.vm = s.vm := by rw [hA]; rfl
  have hhp : s'.heap = H := by rw [hA]; exact hT
  have hW0 : s.WarmedH s'.vm := by rw [hvm]; exact State.WarmedH.refl s
  have hat' : ∀ w ∈ vx_at0 own ic cls names, w.before args s' = true := fun w hw => vx_ot_at hW0 hvm.symm (hgood w (List.mem_cons_of_mem _ (List.mem_cons_of_mem _ hw))) (hat w hw)
  have hk' : (Cond.classLink own ik cls).before args s' = true := vx_ot_at hW0 hvm.symm (hgood _ List.mem_cons_self) hk
  have hini' : (Cond.initialized cls).before args s' = true := vx_ot_at hW0 hvm.symm (hgood _ (List.mem_cons_of_mem _ List.mem_cons_self)) hini
  have hU' : vx_Zq Bundle.tN "UNASSIGNED_STACK" Bundle.steD A s' s'.heap := by rw [hhp]; exact vx_Zq.moved hW0.alike (hU.kept hS.2.1)
  have hN' : vx_Zq Bundle.tN "SUPPRESSED_SENTINEL" Bundle.listD A s' s'.heap := by rw [hhp]; exact vx_Zq.moved hW0.alike (hN.kept hS.2.1)
  have h : ∀ w ∈ Bundle.ownAtoms0 own ic cls names, w.before args s' = true := vx_own hat' (vx_isRefq hU'.1) (vx_isRefq hN'.1) hU'.2.word hN'.2.word
  have hown' : s'.vm.findClass own = some m.cls := by rw [hvm]; exact hown
  have hins : (Cond.instantiable cls 6).before args s' = true := h _ (by simp [Bundle.ownAtoms0])
  obtain ⟨vm₁, cX, kX, hfX, hkX, -, -, X₁, st1⟩ := Y.newCold hexec (own := own) (C := cls) (index := ik) (n := 6) hown' hk' hins hini'
    (g := F0 m pc ls rest) rfl (by rw [hb]; exact d0) (Nat.le_refl _) (Nat.le_refl _)
  generalize hT1 : (T.setVm vm₁).pushCell { cls := cX, slots := kX.instanceTypes.map defaultValue, vm := .none } = T1 at X₁ st1
  have hcat : (Value.ref T.heap.size).category = 1 := rfl
  have hcellA : T1.heap[T.heap.size]? = some (freshCell cX kX) := by rw [← hT1]; exact State.heap_pushCell_size _ _
  have d3' : decode c.code (pc + 3) = .ok (.dup, 1) := by rw [hb]; exact d3
  obtain ⟨U, hsteps, hrun, hend, hW, hsame, ce, hce, hO⟩ := X₁.ctorThrow0 hexec htr (own := own) (cls := cls) (names := names) (ic := ic) hown' hcls hnames h (fun x hx => nomatch hx) hfX hkX hcellA (by rw [hhp, hT]; exact Nat.le_refl _)
    (g := { method := m, pc := pc + 4, locals := ls, stack := .ref T.heap.size :: .ref T.heap.size :: rest, locked := none }) rfl hsize rfl rfl (rest := rest) rfl
    (by rw [hb]; exact d4) (by rw [hb]; exact d7) hout hRframes (by simp only [List.map_cons, List.sum_cons, hcat]; omega) hlocks
  obtain ⟨f1, f2⟩ := vx_frame hsame
  rw [hhp] at f1 f2
  have hWs : s.WarmedH U.vm := State.WarmedH.trans hW0 hW
  have hcl : s.vm.findClass cls = some ce.cls := by
    have h9 := hO.cls
    rw [hvm] at h9
    exact h9
  have hall : s.sameButNew ({ U with vm := s.vm } : State) locs mc ms := by
    subst hA
    obtain ⟨e1, e2⟩ := hsame
    rw [State.setFrames_setFrames] at e1
    have h2 : (T.setVm s.vm).sameButNew ({ U with vm := s.vm } : State) [] (0 + 1) (0 + 6) := ⟨e1, e2⟩
    have h3 := X.same.trans h2
    rw [List.append_nil] at h3
    exact h3.mono hc hs
  refine ⟨U, ?_, .threw T.heap.size, hrun, hend, Or.inr ⟨T.heap.size, rfl, cls, ce, locs, hx U hWs.alike f1 (fun q hq => f2 q hq (fun z hz => nomatch hz)), hce, hO.vm, hcl, hWs, hall, hf⟩⟩
  refine st1 _ ?_
  show Steps p.tables e below (T1.setTop { method := m, pc := pc + 3, locals := ls, stack := .ref T.heap.size :: rest, locked := none }) _
  jvm_step X₁.here [X₁.here.top, hexec, d3', Value.category]
  exact hsteps
/-- 'throw new E("text")': new; dup; ldc; invokespecial; athrow -/
theorem vx_throwS {cc : ByteArray} {pc : Nat} (hexec : p.tables.exec = Jvm.exec) (hb : c.code = cc) (hl : l.stackTraces = false) {own cls text : String} {names : List String} {ik is ic mc ms sa : Nat} {A : Nat → Prop}
    (hown : s.vm.findClass own = some m.cls) (hcls : Bundle.fit cls = true) (hnames : ∀ n ∈ names, Bundle.fit n = true)
    (hk : (Cond.classLink own ik cls).before args s = true) (hini : (Cond.initialized cls).before args s = true) (hstr : vk_R own is text sa s) (hat : ∀ w ∈ vx_atS own ic cls names, w.before args s = true)
    (hgood : ∀ w ∈ Cond.classLink own ik cls :: Cond.initialized cls :: vx_atS own ic cls names, vx_ot w = true)
    (hU : vx_Zq Bundle.tN "UNASSIGNED_STACK" Bundle.steD A s s.heap) (hN : vx_Zq Bundle.tN "SUPPRESSED_SENTINEL" Bundle.listD A s s.heap) (hS : va_S A s.heap H locs) (hsize : ls.size = c.maxLocals)
    (d0 : decode cc pc = .ok (.new ik, 3)) (d3 : decode cc (pc + 3) = .ok (.dup, 1)) (d4 : decode cc (pc + 4) = .ok (.ldc is, 2)) (d6 : decode cc (pc + 6) = .ok (.invokespecial ic, 3)) (d9 : decode cc (pc + 9) = .ok (.athrow, 1))
    (hout : ∀ x ∈ c.exceptionTable.toList, covers x (pc + 9) = false)
    (hRframes : names.length + 3 < R.frames) (hRlocals : (rest.map fun v => v.category).sum + (13 * (names.length + 1) + 43) ≤ R.locals) (hRcells : cells + 1 ≤ R.cells) (hRslots : slots + 6 ≤ R.slots) (hlocks : meth.locks = false)
    (hx : ∀ t : State, s.vm.Alike t.vm → H.size ≤ t.heap.size → (∀ q : Nat, q < H.size → t.heap[q]? = H[q]?) → XC cls s t)
    (hf : ∀ z ∈ locs, free z.base) (hc : cells + 1 ≤ mc) (hs : slots + 6 ≤ ms) :
    W p l e R s m args below meth c H locs cells slots (vx_MQ below Qc XC args s mc ms free) (F0 m pc ls rest) := by
  intro T hT X
  have htr : e.platform.stackTraces = false := (show e.platform.stackTraces = l.stackTraces by rw [X.admits.platform]).trans hl
  have Y := vx_rebase X (R' := { frames := R.frames, locals := R.locals, cells := 1, slots := 6 }) (Nat.le_refl _) (Nat.le_refl _) hRcells hRslots
  obtain ⟨s', hA⟩ : ∃ z, z = (T.setVm s.vm).setFrames (.invoking m args :: below) := ⟨_, rfl⟩
  rw [← hA] at Y
  have hvm : s'.vm = s.vm := by rw [hA]; rfl
  have hhp : s'.heap = H := by rw [hA]; exact hT
  have hW0 : s.WarmedH s'.vm := by rw [hvm]; exact State.WarmedH.refl s
  have hat' : ∀ w ∈ vx_atS own ic cls names, w.before args s' = true := fun w hw => vx_ot_at hW0 hvm.symm (hgood w (List.mem_cons_of_mem _ (List.mem_cons_of_mem _ hw))) (hat w hw)
  have hk' : (Cond.classLink own ik cls).before args s' = true := vx_ot_at hW0 hvm.symm (hgood _ List.mem_cons_self) hk
  have hini' : (Cond.initialized cls).before args s' = true := vx_ot_at hW0 hvm.symm (hgood _ (List.mem_cons_of_mem _ List.mem_cons_self)) hini
  have hU' : vx_Zq Bundle.tN "UNASSIGNED_STACK" Bundle.steD A s' s'.heap := by rw [hhp]; exact vx_Zq.moved hW0.alike (hU.kept hS.2.1)
  have hN' : vx_Zq Bundle.tN "SUPPRESSED_SENTINEL" Bundle.listD A s' s'.heap := by rw [hhp]; exact vx_Zq.moved hW0.alike (hN.kept hS.2.1)
  have h : ∀ w ∈ Bundle.ownAtoms own ic cls names, w.before args s' = true := vx_own hat' (vx_isRefq hU'.1) (vx_isRefq hN'.1) hU'.2.word hN'.2.word
  have hown' : s'.vm.findClass own = some m.cls := by rw [hvm]; exact hown
  have hins : (Cond.instantiable cls 6).before args s' = true := h _ (by simp [Bundle.ownAtoms])
  obtain ⟨vm₁, cX, kX, hfX, hkX, -, -, X₁, st1⟩ := Y.newCold hexec (own := own) (C := cls) (index := ik) (n := 6) hown' hk' hins hini'
    (g := F0 m pc ls rest) rfl (by rw [hb]; exact d0) (Nat.le_refl _) (Nat.le_refl _)
  generalize hT1 : (T.setVm vm₁).pushCell { cls := cX, slots := kX.instanceTypes.map defaultValue, vm := .none } = T1 at X₁ st1
  have hcat : (Value.ref T.heap.size).category = 1 := rfl
  have hcellA : T1.heap[T.heap.size]? = some (freshCell cX kX) := by rw [← hT1]; exact State.heap_pushCell_size _ _
  have d3' : decode c.code (pc + 3) = .ok (.dup, 1) := by rw [hb]; exact d3
  have d4' : decode c.code (pc + 4) = .ok (.ldc is, 2) := by rw [hb]; exact d4
  have hstr' : vk_R own is text sa s' := vk_R.warm hW0 hstr
  obtain ⟨U, hsteps, hrun, hend, hW, hsame, ce, hce, hO⟩ := X₁.ctorThrowS hexec htr (own := own) (cls := cls) (names := names) (ic := ic) hown' hcls hnames h (fun x hx => nomatch hx) hfX hkX hcellA (by rw [hhp, hT]; exact Nat.le_refl _) (msg := .ref sa) rfl
    (g := { method := m, pc := pc + 6, locals := ls, stack := .ref sa :: .ref T.heap.size :: .ref T.heap.size :: rest, locked := none }) rfl hsize rfl rfl (rest := rest) rfl
    (by rw [hb]; exact d6) (by rw [hb]; exact d9) hout hRframes (by simp only [List.map_cons, List.sum_cons, hcat]; omega) hlocks
  obtain ⟨f1, f2⟩ := vx_frame hsame
  rw [hhp] at f1 f2
  have hWs : s.WarmedH U.vm := State.WarmedH.trans hW0 hW
  have hcl : s.vm.findClass cls = some ce.cls := by
    have h9 := hO.cls
    rw [hvm] at h9
    exact h9
  have hall : s.sameButNew ({ U with vm := s.vm } : State) locs mc ms := by
    subst hA
    obtain ⟨e1, e2⟩ := hsame
    rw [State.setFrames_setFrames] at e1
    have h2 : (T.setVm s.vm).sameButNew ({ U with vm := s.vm } : State) [] (0 + 1) (0 + 6) := ⟨e1, e2⟩
    have h3 := X.same.trans h2
    rw [List.append_nil] at h3
    exact h3.mono hc hs
  refine ⟨U, ?_, .threw T.heap.size, hrun, hend, Or.inr ⟨T.heap.size, rfl, cls, ce, locs, hx U hWs.alike f1 (fun q hq => f2 q hq (fun z hz => nomatch hz)), hce, hO.vm, hcl, hWs, hall, hf⟩⟩
  refine st1 _ ?_
  show Steps p.tables e below (T1.setTop { method := m, pc := pc + 3, locals := ls, stack := .ref T.heap.size :: rest, locked := none }) _
  jvm_step X₁.here [X₁.here.top, hexec, d3', Value.category]
  exact X₁.ldcString hexec (own := own) (text := text) (index := is) (a := sa) hown' hstr'.1 hstr'.2
    (g := { method := m, pc := pc + 4, locals := ls, stack := .ref T.heap.size :: .ref T.heap.size :: rest, locked := none }) rfl d4' _ hsteps
/-- 'throw new E("text")', the text by a wide index -/
theorem vx_throwSW {cc : ByteArray} {pc : Nat} (hexec : p.tables.exec = Jvm.exec) (hb : c.code = cc) (hl : l.stackTraces = false) {own cls text : String} {names : List String} {ik is ic mc ms sa : Nat} {A : Nat → Prop}
    (hown : s.vm.findClass own = some m.cls) (hcls : Bundle.fit cls = true) (hnames : ∀ n ∈ names, Bundle.fit n = true)
    (hk : (Cond.classLink own ik cls).before args s = true) (hini : (Cond.initialized cls).before args s = true) (hstr : vk_R own is text sa s) (hat : ∀ w ∈ vx_atS own ic cls names, w.before args s = true)
    (hgood : ∀ w ∈ Cond.classLink own ik cls :: Cond.initialized cls :: vx_atS own ic cls names, vx_ot w = true)
    (hU : vx_Zq Bundle.tN "UNASSIGNED_STACK" Bundle.steD A s s.heap) (hN : vx_Zq Bundle.tN "SUPPRESSED_SENTINEL" Bundle.listD A s s.heap) (hS : va_S A s.heap H locs) (hsize : ls.size = c.maxLocals)
    (d0 : decode cc pc = .ok (.new ik, 3)) (d3 : decode cc (pc + 3) = .ok (.dup, 1)) (d4 : decode cc (pc + 4) = .ok (.ldc_w is, 3)) (d7 : decode cc (pc + 7) = .ok (.invokespecial ic, 3)) (d10 : decode cc (pc + 10) = .ok (.athrow, 1))
    (hout : ∀ x ∈ c.exceptionTable.toList, covers x (pc + 10) = false)
    (hRframes : names.length + 3 < R.frames) (hRlocals : (rest.map fun v => v.category).sum + (13 * (names.length + 1) + 43) ≤ R.locals) (hRcells : cells + 1 ≤ R.cells) (hRslots : slots + 6 ≤ R.slots) (hlocks : meth.locks = false)
    (hx : ∀ t : State, s.vm.Alike t.vm → H.size ≤ t.heap.size → (∀ q : Nat, q < H.size → t.heap[q]? = H[q]?) → XC cls s t)
    (hf : ∀ z ∈ locs, free z.base) (hc : cells + 1 ≤ mc) (hs : slots + 6 ≤ ms) :
    W p l e R s m args below meth c H locs cells slots (vx_MQ below Qc XC args s mc ms free) (F0 m pc ls rest) := by
  intro T hT X
  have htr : e.platform.stackTraces = false := (show e.platform.stackTraces = l.stackTraces by rw [X.admits.platform]).trans hl
  have Y := vx_rebase X (R' := { frames := R.frames, locals := R.locals, cells := 1, slots := 6 }) (Nat.le_refl _) (Nat.le_refl _) hRcells hRslots
  obtain ⟨s', hA⟩ : ∃ z, z = (T.setVm s.vm).setFrames (.invoking m args :: below) := ⟨_, rfl⟩
  rw [← hA] at Y
  have hvm : s'.vm = s.vm := by rw [hA]; rfl
  have hhp : s'.heap = H := by rw [hA]; exact hT
  have hW0 : s.WarmedH s'.vm := by rw [hvm]; exact State.WarmedH.refl s
  have hat' : ∀ w ∈ vx_atS own ic cls names, w.before args s' = true := fun w hw => vx_ot_at hW0 hvm.symm (hgood w (List.mem_cons_of_mem _ (List.mem_cons_of_mem _ hw))) (hat w hw)
  have hk' : (Cond.classLink own ik cls).before args s' = true := vx_ot_at hW0 hvm.symm (hgood _ List.mem_cons_self) hk
  have hini' : (Cond.initialized cls).before args s' = true := vx_ot_at hW0 hvm.symm (hgood _ (List.mem_cons_of_mem _ List.mem_cons_self)) hini
  have hU' : vx_Zq Bundle.tN "UNASSIGNED_STACK" Bundle.steD A s' s'.heap := by rw [hhp]; exact vx_Zq.moved hW0.alike (hU.kept hS.2.1)
  have hN' : vx_Zq Bundle.tN "SUPPRESSED_SENTINEL" Bundle.listD A s' s'.heap := by rw [hhp]; exact vx_Zq.moved hW0.alike (hN.kept hS.2.1)
  have h : ∀ w ∈ Bundle.ownAtoms own ic cls names, w.before args s' = true := vx_own hat' (vx_isRefq hU'.1) (vx_isRefq hN'.1) hU'.2.word hN'.2.word
  have hown' : s'.vm.findClass own = some m.cls := by rw [hvm]; exact hown
  have hins : (Cond.instantiable cls 6).before args s' = true := h _ (by simp [Bundle.ownAtoms])
  obtain ⟨vm₁, cX, kX, hfX, hkX, -, -, X₁, st1⟩ := Y.newCold hexec (own := own) (C := cls) (index := ik) (n := 6) hown' hk' hins hini'
    (g := F0 m pc ls rest) rfl (by rw [hb]; exact d0) (Nat.le_refl _) (Nat.le_refl _)
  generalize hT1 : (T.setVm vm₁).pushCell { cls := cX, slots := kX.instanceTypes.map defaultValue, vm := .none } = T1 at X₁ st1
  have hcat : (Value.ref T.heap.size).category = 1 := rfl
  have hcellA : T1.heap[T.heap.size]? = some (freshCell cX kX) := by rw [← hT1]; exact State.heap_pushCell_size _ _
  have d3' : decode c.code (pc + 3) = .ok (.dup, 1) := by rw [hb]; exact d3
  have d4' : decode c.code (pc + 4) = .ok (.ldc_w is, 3) := by rw [hb]; exact d4
  have hstr' : vk_R own is text sa s' := vk_R.warm hW0 hstr
  obtain ⟨U, hsteps, hrun, hend, hW, hsame, ce, hce, hO⟩ := X₁.ctorThrowS hexec htr (own := own) (cls := cls) (names := names) (ic := ic) hown' hcls hnames h (fun x hx => nomatch hx) hfX hkX hcellA (by rw [hhp, hT]; exact Nat.le_refl _) (msg := .ref sa) rfl
    (g := { method := m, pc := pc + 7, locals := ls, stack := .ref sa :: .ref T.heap.size :: .ref T.heap.size :: rest, locked := none }) rfl hsize rfl rfl (rest := rest) rfl
    (by rw [hb]; exact d7) (by rw [hb]; exact d10) hout hRframes (by simp only [List.map_cons, List.sum_cons, hcat]; omega) hlocks
  obtain ⟨f1, f2⟩ := vx_frame hsame
  rw [hhp] at f1 f2
  have hWs : s.WarmedH U.vm := State.WarmedH.trans hW0 hW
  have hcl : s.vm.findClass cls = some ce.cls := by
    have h9 := hO.cls
    rw [hvm] at h9
    exact h9
  have hall : s.sameButNew ({ U with vm := s.vm } : State) locs mc ms := by
    subst hA
    obtain ⟨e1, e2⟩ := hsame
    rw [State.setFrames_setFrames] at e1
    have h2 : (T.setVm s.vm).sameButNew ({ U with vm := s.vm } : State) [] (0 + 1) (0 + 6) := ⟨e1, e2⟩
    have h3 := X.same.trans h2
    rw [List.append_nil] at h3
    exact h3.mono hc hs
  refine ⟨U, ?_, .threw T.heap.size, hrun, hend, Or.inr ⟨T.heap.size, rfl, cls, ce, locs, hx U hWs.alike f1 (fun q hq => f2 q hq (fun z hz => nomatch hz)), hce, hO.vm, hcl, hWs, hall, hf⟩⟩
  refine st1 _ ?_
  show Steps p.tables e below (T1.setTop { method := m, pc := pc + 3, locals := ls, stack := .ref T.heap.size :: rest, locked := none }) _
  jvm_step X₁.here [X₁.here.top, hexec, d3', Value.category]
  exact X₁.ldcStringW hexec (own := own) (text := text) (index := is) (a := sa) hown' hstr'.1 hstr'.2
    (g := { method := m, pc := pc + 4, locals := ls, stack := .ref T.heap.size :: .ref T.heap.size :: rest, locked := none }) rfl d4' _ hsteps
end Ends
section Bodies
variable {l : Launch}
theorem vx_ofW {y : MethodName} {ws ws' : List Cond} {rm : Room} {Pc : Array Value → State → Prop} {Qc : Array Value → State → Outcome → State → Prop} {XC : String → State → State → Prop} {mc ms : Nat} {free : Addr → Prop} {cc : ByteArray} {maxL : Nat} {ret : Option FieldType}
    (hy : plainName y.cls = true) (hw : ws = Cond.code y cc maxL ret :: ws')
    (body : ∀ p e s m args below meth c s₁, BodyLoose p l y (headSpec ws rm) cc maxL ret e s m args below meth c s₁ → c.maxLocals = maxL → (∀ x ∈ c.exceptionTable.toList, False) → Pc args s →
      W p l e (headSpec ws rm).room s m args below meth c s.heap [] 0 0 (vx_MQ below Qc XC args s mc ms free) (entryFrame m args maxL)) : vx_Met l y ws rm Pc Qc XC mc ms free := by
  refine MetFree.of_bodyS (code := cc) (maxLocals := maxL) (ret := ret) hy ?_ ?_
  · intro args s m h hn
    obtain ⟨meth, c, h1, h2, h3, h4, h5, h6, -, -⟩ := Cond.code_spec hn (atoms_spec (ws := ws) h _ (by rw [hw]; exact List.mem_cons_self))
    exact ⟨meth, c, h1, h2, h3, h4, h5, h6⟩
  · intro p e s m args below meth c s₁ B hml hP _
    have hh0 : s₁.heap = s.heap := by rw [B.state]; rfl
    have ht : ∀ x ∈ c.exceptionTable.toList, False := by
      obtain ⟨meth9, c9, h1, h2, -, -, -, -, h7, -⟩ := Cond.code_spec B.named (atoms_spec (ws := ws) B.pre _ (by rw [hw]; exact List.mem_cons_self))
      cases Option.some.inj (h1.symm.trans B.method)
      cases Option.some.inj (h2.symm.trans (Stand.of_body B).code)
      intro x hx
      rw [Array.isEmpty_iff.mp h7] at hx
      cases hx
    obtain ⟨t, a1, o, b1, b2, b3⟩ := body p e s m args below meth c s₁ B hml ht hP s₁ hh0 (Stand.of_body B)
    exact ⟨t, o, a1, b1, b2, b3⟩
/-- the table of a body with handlers -/
theorem vx_table {p : Program} {x y : MethodName} {S : Spec} {cc bytes : ByteArray} {maxL maxL' : Nat} {ret ret' : Option FieldType} {e : Env} {s s₁ : State} {m : MethodId} {args : Array Value} {below : List Frame} {meth : Method} {c : Code} {hh : List (Nat × Nat × Nat × Nat)}
    (B : BodyLoose p l y S cc maxL ret e s m args below meth c s₁) (h : (Cond.codeWith y bytes maxL' ret' hh).before args s = true) : c.exceptionTable.toList = tableOf hh := by
  obtain ⟨m9, meth9, c9, hn9, h1, h2, -, -, h6, -⟩ := Cond.codeWith_spec h
  cases Option.some.inj (hn9.symm.trans B.named)
  cases Option.some.inj (h1.symm.trans B.method)
  cases Option.some.inj (h2.symm.trans (Stand.of_body B).code)
  rw [← h6, table_eq]
end Bodies
end VXA
/-! ===== END ===== -/
/-! ===== BEGIN a static call of a method with an exception table ===== -/
section VXS
variable {p : Program} {l : Launch} {e : Env} {R : Room} {s : State} {m : MethodId} {args : Array Value} {below : List Frame} {meth : Method} {c : Code} {T : State} {H : Heap} {locs : List Loc} {cells slots : Nat}
abbrev vx_CSW (R : Room) (s : State) (args : Array Value) (own : String) (index : Nat) (y : MethodName) (bytes : ByteArray) (maxL : Nat) (ret : Option FieldType) (hh : List (Nat × Nat × Nat × Nat)) (ws : List Cond) (rm : Room) (mc ms n : Nat) : Prop :=
  (rm.cells = mc ∧ rm.slots = ms ∧ rm.frames + 1 ≤ R.frames ∧ 8 + (maxL + 11) + rm.locals ≤ R.locals ∧ (∀ w ∈ ws, ∀ (a' : Array Value) (U : State), s.WarmedH U.vm → w.before a' U = true) ∧ Cond.codeWith y bytes maxL ret hh ∈ ws) ∧
  (Cond.codeWith y bytes maxL ret hh).before args s = true ∧ (Cond.initialized y.cls).before args s = true ∧ (y.cls ≠ "java/lang/invoke/MethodHandle" ∧ y.cls ≠ "java/lang/invoke/VarHandle") ∧
  (∀ sig, parseMethodDescriptor y.desc = some sig → n = sig.parameters.length) ∧ (Cond.methodLink own index y).before args s = true ∧ (Cond.static y).before args s = true
theorem vx_cwSW {own : String} {index maxL mc ms : Nat} {y : MethodName} {bytes : ByteArray} {ret : Option FieldType} {hh : List (Nat × Nat × Nat × Nat)} {Ts ws ws' : List Cond} {rm : Room} (n : Nat) (ht : ∀ w ∈ Ts, w.before args s = true) (hT : GoodIn Ts (va_wsS own index y ws)) (hw : ws = Cond.codeWith y bytes maxL ret hh :: ws') (hrc : rm.cells = mc) (hrs : rm.slots = ms)
    (hd : y.cls ≠ "java/lang/invoke/MethodHandle" ∧ y.cls ≠ "java/lang/invoke/VarHandle" ∧ (parseMethodDescriptor y.desc).map (fun d => d.parameters.length) = some n) (hR : rm.frames + 1 ≤ R.frames ∧ 8 + (maxL + 11) + rm.locals ≤ R.locals) :
    vx_CSW R s args own index y bytes maxL ret hh ws rm mc ms n := by
  have ok : ∀ w ∈ va_wsS own index y ws, w.before args s = true := fun w h => ht w (hT w h).1
  have hG : GoodIn Ts ws := fun w h => hT w (by unfold va_wsS; exact List.mem_append_right _ h)
  have hc : Cond.codeWith y bytes maxL ret hh ∈ ws := by rw [hw]; exact List.mem_cons_self
  refine ⟨⟨hrc, hrs, hR.1, hR.2, pay_in ht hG, hc⟩, ht _ (hG _ hc).1, ok _ (by simp [va_wsS]), ⟨hd.1, hd.2.1⟩, fun sig h => ?_, ok _ (by simp [va_wsS]), ok _ (by simp [va_wsS])⟩
  have h2 := hd.2.2
  rw [h] at h2
  exact (Option.some.inj h2).symm
theorem vx_callSW (X : Stand p l e R s m args below meth c T locs cells slots) (hexec : p.tables.exec = Jvm.exec) {own : String} {index : Nat} {y : MethodName} {bytes : ByteArray} {maxL : Nat} {ret : Option FieldType} {hh : List (Nat × Nat × Nat × Nat)}
    (hown : s.vm.findClass own = some m.cls) (hlink : (Cond.methodLink own index y).before args s = true) (hstat : (Cond.static y).before args s = true) (hinit : (Cond.initialized y.cls).before args s = true)
    (hcode : (Cond.codeWith y bytes maxL ret hh).before args s = true) (hy : y.cls ≠ "java/lang/invoke/MethodHandle" ∧ y.cls ≠ "java/lang/invoke/VarHandle")
    {W9 : Nat} {Pre : Pt → Array Value → Prop} {Post : Pt → Array Value → Option Value → Pt → Prop} (hK : Back l R p e below s args y 3 W9 Pre Post)
    {g : JFrame} (hg : g.method = m) (hsize : g.locals.size = c.maxLocals) {argsL rest : List Value} (hlen : ∀ sig, parseMethodDescriptor y.desc = some sig → argsL.length = sig.parameters.length)
    (hstack : g.stack = argsL.reverse ++ rest) (hW : 2 * g.monitorRoom + (rest.map fun v => v.category).sum ≤ W9) (hdg : decode c.code g.pc = .ok (.invokestatic index, 3))
    (hpre : ∀ vm₁, s.WarmedH vm₁ → Pre ⟨T.setVm vm₁, locs, cells, slots⟩ argsL.toArray) :
    ∃ (v : Option Value) (vm₁ : Vm) (B : Pt), s.WarmedH vm₁ ∧ Stand p l e R s m args below meth c B.U B.locs B.cells B.slots ∧ Post ⟨T.setVm vm₁, locs, cells, slots⟩ argsL.toArray v B ∧
      ∀ target, Steps p.tables e below (B.U.setTop { g with pc := g.pc + 3, stack := v.toList ++ rest }) target → Steps p.tables e below (T.setTop g) target := by
  obtain ⟨mk, methM, cM, hnamed, hmethM, -, -, -, -, -, -, hsigM⟩ := Cond.codeWith_spec hcode
  have hstatic : methM.isStatic = true := Cond.static_spec hnamed hmethM hstat
  obtain ⟨kP, hkP, -⟩ := className_of_methodNamed hnamed
  have hinitP : kP.init = .initialized := Cond.initialized_spec (findClass_of_methodNamed hnamed) hkP hinit
  obtain ⟨vm₁, X₁, hstep₁⟩ := X.invokestatic hexec hown hlink hnamed hmethM hstatic hkP hinitP hy (g := g) hg (argsL := argsL) (rest := rest) (hlen _ hsigM) hstack hdg
  obtain ⟨v, B, X', hpost, hsteps⟩ := hK m meth c ⟨T.setVm vm₁, locs, cells, slots⟩ { g with stack := rest } (.invokestatic index) mk argsL.toArray X₁ hg hsize hdg hW (X₁.named hnamed) (hpre vm₁ X₁.warmed)
  exact ⟨v, vm₁, B, X₁.warmed, X', hpost, fun target h => hstep₁ _ fun acts => by rw [doInvoke_state]; exact hsteps.trans h⟩
theorem vx_runSW {y : MethodName} {bytes cc : ByteArray} {maxL nL mc ms n index : Nat} {ret : Option FieldType} {hh : List (Nat × Nat × Nat × Nat)} {ws : List Cond} {rm : Room} {Pc : Array Value → State → Prop} {Qc : Array Value → State → Outcome → State → Prop} {free : Addr → Prop} {Ts : List Cond} {own : String} {As rest : List Value} {g : JFrame}
    (S : CallFix p m c cc nL s args Ts own) (hM : Met l y ws rm Pc Qc mc ms free) (cw : vx_CSW R s args own index y bytes maxL ret hh ws rm mc ms n) (hp : PreS s H Pc As)
    (hg : g.method = m) (hn : As.length = n) (hsize : g.locals.size = nL) (hstack : g.stack = As.reverse ++ rest) (hW : 2 * g.monitorRoom + (rest.map fun v => v.category).sum ≤ 8) (hdg : decode cc g.pc = .ok (.invokestatic index, 3)) (hf : cells + mc ≤ R.cells ∧ slots + ms ≤ R.slots) :
    va_Run p l e R s m args below meth c H locs cells slots mc ms g rest (Qc As.toArray) (free) := by
  obtain ⟨⟨hrc, hrs, hfr, hlo, hws, hcw⟩, hcode, hini, hy, hlen, hl, hstt⟩ := cw
  have hK : Back l R p e below s args y 3 8 (PreOf R mc ms Pc) (PostOf Qc mc ms free) := va_backW (hh := hh) (bytes := bytes) (maxL := maxL) (ret := ret) hM hp.1 hrc hrs hfr hlo hws hcw (fun a' U hW => word_at hW (Or.inl (by first | rfl | simp [Cond.onTables, Cond.keeps, Cond.steady])) hini)
  obtain ⟨hx, hb, hml, ho, -⟩ := S
  intro T hT X
  obtain ⟨v, vm₁, ⟨U', l2, c2, s2⟩, hW₁, X', ⟨g', mk, t, L, e1, e2, hq, h1, hL, h2, h3⟩, st⟩ := vx_callSW X hx (hh := hh) (bytes := bytes) (maxL := maxL) (ret := ret) ho hl hstt hini hcode hy hK hg (hsize.trans hml.symm) (argsL := As) (rest := rest) (fun sig h => hn.trans (hlen sig h)) hstack hW (by rw [hb]; exact hdg)
    (fun vm₁ hW₁ => ⟨hf.1, hf.2, hp.2 (T.setVm vm₁) hT hW₁⟩)
  dsimp only [Pt.U, Pt.locs, Pt.cells, Pt.slots] at X' e1 e2 h1 h2 h3 st
  subst h1; subst h2; subst h3
  exact ⟨v, (T.setVm vm₁).calling g' mk As.toArray, t, U', L, hT, X', hL, e1, e2, hq, st⟩
/-- not caught here, past rows that name other classes: it goes on to the caller -/
theorem vx_outP {p : Program} {l : Launch} {e : Env} {R : Room} {s : State} {m : MethodId} {args : Array Value} {below : List Frame} {meth : Method} {c : Code} {H : Heap} {locs : List Loc} {cells slots : Nat} {free : Addr → Prop} {ls : Array Slot} {rest : List Value} {Qc : Array Value → State → Outcome → State → Prop} {XC : String → State → State → Prop}
    {pc : Nat} {own E : String} {ce : Cell} {q : Addr} {mc ms : Nat} (hown : s.vm.findClass own = some m.cls) (hlocks : meth.locks = false)
    (hpass : ∀ z ∈ c.exceptionTable.toList, covers z pc = false ∨ (z.catchType ≠ 0 ∧ ∃ nm : String, (Cond.classLink own z.catchType nm).before args s = true ∧ va_Nc E nm s)) (hcell : H[q]? = some ce) (hv : ce.vm = .none) (hcl : s.vm.findClass E = some ce.cls)
    (hx : ∀ t : State, t.heap = H → s.vm.Alike t.vm → XC E s t) (hf : ∀ z ∈ locs, free z.base) (hc : cells ≤ mc) (hs : slots ≤ ms) :
    vx_W p l e R s m args below meth c H locs cells slots (vx_MQ below Qc XC args s mc ms free) (F0 m pc ls rest) q := by
  intro T hT X
  have hpl : e.platform.magicAccessors = ({} : Platform).magicAccessors := by rw [X.admits.platform]
  obtain ⟨vm', hW', X', st⟩ := X.outThrough hlocks q (g := F0 m pc ls rest) rfl rfl rfl (cell := ce) (by rw [hT]; exact hcell) (by rw [hv]; rfl)
    (by obtain ⟨k9, h9, -⟩ := Vm.findClass_spec hcl; exact ⟨k9, h9⟩) (fun z hz => by
      rcases hpass z hz with h | ⟨hz0, nm, hl1, hn1⟩
      · exact Or.inl h
      · obtain ⟨c6, hc6, hcl6⟩ := Cond.classLink_spec hown hl1 e.platform hpl
        obtain ⟨a8, b8, h1, h2, h3⟩ := hn1
        cases Option.some.inj (h1.symm.trans hcl)
        cases Option.some.inj (h2.symm.trans hc6)
        exact Or.inr ⟨hz0, _, hcl6, h3⟩)
  obtain ⟨g₀, hfr⟩ := X'.frames_eq
  have hcell9 : ((T.setVm vm').setFrames (.throwing q :: below)).heap[q]? = some ce := by
    show T.heap[q]? = some ce
    rw [hT]; exact hcell
  have hend : Ended ((T.setVm vm').setFrames (.throwing q :: below)) below (.threw q) := State.frames_setFrames _ (State.cur_lt_of_frames hfr)
  refine ⟨(T.setVm vm').setFrames (.throwing q :: below), ?_, .threw q, X'.here.running, hend, Or.inr ⟨q, rfl, E, ce, locs, hx _ hT (X'.ends _).1.alike, hcell9, hv, hcl, (X'.ends _).1, (X'.ends _).2.mono hc hs, hf⟩⟩
  rw [X.pushThrowing_eq]
  exact st
/-- a thing of a world lies in the heap -/
theorem vx_lt {D : va_G} {cl : List vw_C} {ws : va_W} {H1 : Heap} (h : va_P D cl ws H1) {k : Nat} {q : Nat × va_E} (hk : ws[k]? = some q) : q.1 < H1.size := (h k q hk).lt
end VXS
/-! ===== END ===== -/
/-! ===== BEGIN methods with a table of their own: called by a name, returning or throwing ===== -/
section VXH
/-! vx_backW, vx_callVX, vx_callSX, vx_callVW, vx_runVW, vx_runVX, vx_runSX, vx_ofWH follow the same proofs as their sisters above (Free/Laws.lean, Shelf42/LK1.lean); vx_outP calls Shelf42/NT130.lean (outThrough). -/
section
variable {l : Launch} {R : Room} {p : Program} {e : Env} {below : List Frame} {s : State} {sargs : Array Value} {y : MethodName} {len W9 : Nat}
theorem vx_backW {ws : List Cond} {rm : Room} {Pc : Array Value → State → Prop} {Qc : Array Value → State → Outcome → State → Prop} {XC : String → State → State → Prop} {mc ms : Nat} {free : Addr → Prop} {bytes : ByteArray} {maxL : Nat} {ret : Option FieldType} {hh : List (Nat × Nat × Nat × Nat)}
    (hM : vx_Met l y ws rm Pc Qc XC mc ms free) (hblind : FrameBlind Pc) (hrc : rm.cells = mc) (hrs : rm.slots = ms)
    (hframes : rm.frames + 1 ≤ R.frames) (hlocals : W9 + (maxL + 11) + rm.locals ≤ R.locals)
    (hws : ∀ w ∈ ws, ∀ a' U, s.WarmedH U.vm → w.before a' U = true) (hcode : Cond.codeWith y bytes maxL ret hh ∈ ws) (hinit : ∀ a' U, s.WarmedH U.vm → (Cond.initialized y.cls).before a' U = true) :
    vx_Back l R p e below s sargs y len W9 (PreOf R mc ms Pc) (PostOf Qc mc ms free) (vx_Post XC mc ms free) := by
  intro m meth c A g ig mk a X hg hsize hdg hW hn hp
  have h1 : (headSpec ws rm).pre.before a A.U = true := atoms_intro fun w hw => hws w hw _ _ X.warmed
  have h2 : (Cond.codeWith y bytes maxL ret hh).before a A.U = true := hws _ hcode _ _ X.warmed
  have h3 : (Cond.initialized y.cls).before a A.U = true := hinit _ _ X.warmed
  have h4 : A.cells + (headSpec ws rm).room.cells ≤ R.cells := by rw [show (headSpec ws rm).room.cells = mc from hrc]; exact hp.1
  have h5 : A.slots + (headSpec ws rm).room.slots ≤ R.slots := by rw [show (headSpec ws rm).room.slots = ms from hrs]; exact hp.2.1
  have hPc : Pc a (A.U.calling g mk a) := hblind _ _ _ _ hp.2.2
  obtain ⟨U, Ls, c0, s0⟩ := A
  dsimp only [Pt.U, Pt.locs, Pt.cells, Pt.slots] at h1 h2 h3 h4 h5 X hn hPc ⊢
  obtain ⟨m9, methY, cY, hn9, hmY, hcY, -, hlY, -⟩ := Cond.codeWith_spec h2
  cases Option.some.inj (hn9.symm.trans hn)
  obtain ⟨kY, hkY, -⟩ := className_of_methodNamed hn
  have hinitY : kY.init = .initialized := Cond.initialized_spec (findClass_of_methodNamed hn) hkY h3
  have h : At U g.method c below := by rw [hg]; exact X.here
  have hlocals9 : W9 + (maxL + 11) + (headSpec ws rm).room.locals ≤ R.locals := hlocals
  have happ : (headSpec ws rm).appliesLoose y e.platform (U.calling g mk a) = true :=
    Spec.appliesLoose_calling (g := g) h hdg hn hkY hinitY
      (X.room_calling (g := g) (R' := (headSpec ws rm).room) hsize hmY hcY hframes (by rw [hlY]; omega) h4 h5) h1
  obtain ⟨mid, hmid⟩ := h.above
  have hfr : (U.setTop g).frames = (.java g :: mid) ++ below := by rw [State.frames_setTop' g h.top, hmid]; rfl
  obtain ⟨o, s₂, hsteps, -, hend, hq⟩ := Steps.callFree hM p X.admits X.cas X.clock (acts := []) hfr happ hPc trivial
  have hq' : vx_Q Qc XC mc ms free a (U.calling g mk a) o s₂ := hq
  rw [State.frames_setTop' g h.top] at hend
  obtain ⟨g₀, hg0⟩ := Option.isSome_iff_exists.mp h.top
  obtain ⟨r, hr⟩ := State.topJava?_eq_some.mp hg0
  have hr' : (({ U with heap := s₂.heap, slotsUsed := s₂.slotsUsed } : State).setVm s₂.vm).frames = .java g₀ :: r := hr
  rcases hq' with ⟨hqc, L, hfe, hL⟩ | ⟨q, rfl, E, ce, L, hx, hce, hcv, hcl, hW₂, hsm, hL⟩
  · obtain ⟨⟨v, rfl⟩, hW₂, e2, q2, q3, q4, q5, q6⟩ := id hfe
    have e3 : s₂ = ({ (U.calling g mk a).setFrames s₂.frames with heap := s₂.heap, slotsUsed := s₂.slotsUsed } : State).setVm s₂.vm := by
      have : s₂ = ({ s₂ with vm := (U.calling g mk a).vm } : State).setVm s₂.vm := rfl
      rw [e2] at this
      exact this
    obtain ⟨c₂, i₂, len₂, hc₂, hd₂, hf₂⟩ := hend
    have hW' : U.WarmedH s₂.vm := hW₂
    have hcc : c₂ = c := by
      have h1 : s₂.code? g.method = U.code? g.method := by
        rw [State.code?_eq, State.code?_eq, hW'.alike.method?]
      exact Option.some.inj (hc₂.symm.trans (h1.trans h.code))
    subst hcc
    have hlen : len₂ = len := by rw [hdg] at hd₂; cases hd₂; rfl
    subst hlen
    have hs₂ : s₂ = (({ U with heap := s₂.heap, slotsUsed := s₂.slotsUsed } : State).setVm s₂.vm).setTop { g with pc := g.pc + len₂, stack := v.toList ++ g.stack } := by
      refine e3.trans ?_
      rw [hf₂, State.calling_eq h.top, State.setFrames_setFrames, State.setTop_of_frames _ hr', hr]
      rfl
    have hsame : U.sameButNew ({ U with heap := s₂.heap, slotsUsed := s₂.slotsUsed } : State) L mc ms := by
      refine ⟨?_, q2, q3, q4, q5, q6⟩
      obtain ⟨t, ht, -⟩ := State.frames_cons hr
      show ({ U with heap := s₂.heap, slotsUsed := s₂.slotsUsed } : State) = { U.setFrames U.frames with heap := s₂.heap, slotsUsed := s₂.slotsUsed }
      rw [State.setFrames_self ht]
    subst hg
    refine Or.inl ⟨v, ⟨(({ U with heap := s₂.heap, slotsUsed := s₂.slotsUsed } : State).setVm s₂.vm), Ls ++ L, c0 + mc, s0 + ms⟩,
      ⟨X.admits, X.cas, X.clock, X.frames, X.room, X.hears, X.method, X.code, (X.here.setHeapUsed s₂.heap s₂.slotsUsed).setVm hW'.alike, X.tail, State.WarmedH.trans X.warmed hW', X.limits, X.bytes, X.same.trans (hsame.setVm s.vm)⟩,
      ⟨g, mk, s₂, L, rfl, rfl, hqc, rfl, hL, rfl, rfl⟩, ?_⟩
    show Steps p.tables e below _ ((({ U with heap := s₂.heap, slotsUsed := s₂.slotsUsed } : State).setVm s₂.vm).setTop { g with pc := g.pc + len₂, stack := v.toList ++ g.stack })
    rw [← hs₂]
    exact hsteps
  · obtain ⟨e2, q2, q3, q4, q5, q6⟩ := id hsm
    have e3 : s₂ = ({ (U.calling g mk a).setFrames s₂.frames with heap := s₂.heap, slotsUsed := s₂.slotsUsed } : State).setVm s₂.vm := by
      have : s₂ = ({ s₂ with vm := (U.calling g mk a).vm } : State).setVm s₂.vm := rfl
      rw [e2] at this
      exact this
    have hf₂ : s₂.frames = .throwing q :: .java g :: U.frames.tail := hend
    have hW' : U.WarmedH s₂.vm := hW₂
    have hs₂ : s₂ = ((({ U with heap := s₂.heap, slotsUsed := s₂.slotsUsed } : State).setVm s₂.vm).setTop g).pushFrame (.throwing q) := by
      refine e3.trans ?_
      rw [hf₂, State.calling_eq h.top, State.setFrames_setFrames, State.pushFrame, State.frames_setTop _ hr', State.setTop_of_frames _ hr', State.setFrames_setFrames, hr]
      rfl
    have hsame : U.sameButNew ({ U with heap := s₂.heap, slotsUsed := s₂.slotsUsed } : State) L mc ms := by
      refine ⟨?_, q2, q3, q4, q5, q6⟩
      obtain ⟨t, ht, -⟩ := State.frames_cons hr
      show ({ U with heap := s₂.heap, slotsUsed := s₂.slotsUsed } : State) = { U.setFrames U.frames with heap := s₂.heap, slotsUsed := s₂.slotsUsed }
      rw [State.setFrames_self ht]
    subst hg
    refine Or.inr ⟨q, ⟨(({ U with heap := s₂.heap, slotsUsed := s₂.slotsUsed } : State).setVm s₂.vm), Ls ++ L, c0 + mc, s0 + ms⟩,
      ⟨X.admits, X.cas, X.clock, X.frames, X.room, X.hears, X.method, X.code, (X.here.setHeapUsed s₂.heap s₂.slotsUsed).setVm hW'.alike, X.tail, State.WarmedH.trans X.warmed hW', X.limits, X.bytes, X.same.trans (hsame.setVm s.vm)⟩,
      ⟨g, mk, s₂, L, E, ce, rfl, rfl, hx, hce, hcv, hcl, rfl, hL, rfl, rfl⟩, ?_⟩
    show Steps p.tables e below _ (((({ U with heap := s₂.heap, slotsUsed := s₂.slotsUsed } : State).setVm s₂.vm).setTop g).pushFrame (.throwing q))
    rw [← hs₂]
    exact hsteps
end
variable {p : Program} {l : Launch} {e : Env} {R : Room} {s : State} {m : MethodId} {args : Array Value} {below : List Frame} {meth : Method} {c : Code} {T : State} {H : Heap} {locs : List Loc} {cells slots : Nat}
theorem vx_callVX (X : Stand p l e R s m args below meth c T locs cells slots) (hexec : p.tables.exec = Jvm.exec) {own C : String} {index : Nat} {y : MethodName} {bytes : ByteArray} {maxL : Nat} {ret : Option FieldType} {hh : List (Nat × Nat × Nat × Nat)}
    (hown : s.vm.findClass own = some m.cls) (hlink : (Cond.methodLink own index y).before args s = true) (hinst : (Cond.instanceMethod y).before args s = true) (hsel : (Cond.selects C y y).before args s = true)
    (hcode : (Cond.codeWith y bytes maxL ret hh).before args s = true) (hy : y.cls ≠ "java/lang/invoke/MethodHandle" ∧ y.cls ≠ "java/lang/invoke/VarHandle")
    {W9 : Nat} {Pre : Pt → Array Value → Prop} {Post : Pt → Array Value → Option Value → Pt → Prop} {PostX : Pt → Array Value → Addr → Pt → Prop} (hK : vx_Back l R p e below s args y 3 W9 Pre Post PostX)
    {b : Addr} {cellB : Cell} (hcell : T.heap[b]? = some cellB) (hobj : cellB.vm.isStatics = false) (hcls : s.vm.findClass C = some cellB.cls)
    {g : JFrame} (hg : g.method = m) (hsize : g.locals.size = c.maxLocals) {argsL rest : List Value} (hlen : ∀ sig, parseMethodDescriptor y.desc = some sig → argsL.length = sig.parameters.length)
    (hstack : g.stack = argsL.reverse ++ .ref b :: rest) (hW : 2 * g.monitorRoom + (rest.map fun v => v.category).sum ≤ W9) (hdg : decode c.code g.pc = .ok (.invokevirtual index, 3))
    (hpre : ∀ vm₁, s.WarmedH vm₁ → Pre ⟨T.setVm vm₁, locs, cells, slots⟩ (Value.ref b :: argsL).toArray) :
    (∃ (v : Option Value) (vm₁ : Vm) (B : Pt), s.WarmedH vm₁ ∧ Stand p l e R s m args below meth c B.U B.locs B.cells B.slots ∧ Post ⟨T.setVm vm₁, locs, cells, slots⟩ (Value.ref b :: argsL).toArray v B ∧
      ∀ target, Steps p.tables e below (B.U.setTop { g with pc := g.pc + 3, stack := v.toList ++ rest }) target → Steps p.tables e below (T.setTop g) target) ∨
    (∃ (q : Addr) (vm₁ : Vm) (B : Pt), s.WarmedH vm₁ ∧ Stand p l e R s m args below meth c B.U B.locs B.cells B.slots ∧ PostX ⟨T.setVm vm₁, locs, cells, slots⟩ (Value.ref b :: argsL).toArray q B ∧
      Steps p.tables e below (T.setTop g) ((B.U.setTop { g with stack := rest }).pushFrame (.throwing q))) := by
  obtain ⟨mk, methM, hnamed, hmethM, hstM, habM⟩ := Cond.instanceMethod_spec hinst
  obtain ⟨m8, methM', cM, hn8, hmethM', -, -, -, -, -, -, hsigM⟩ := Cond.codeWith_spec hcode
  cases Option.some.inj (hn8.symm.trans hnamed)
  cases hmethM.symm.trans hmethM'
  obtain ⟨c2, r2, m2, q1, q2, q3, q4, kP, hkP, hkPi⟩ := Cond.selects_spec hsel
  cases hcls.symm.trans q1
  cases (State.methodFound?_of_named hnamed hy).symm.trans q2
  cases hnamed.symm.trans q3
  have hselP : selectMethod e.platform s.vm cellB.cls mk = .method mk := by rw [Launch.admits_selectMethod X.admits]; exact q4
  obtain ⟨vm₁, X₁, hstep₁⟩ := X.invokevirtual hexec hown hlink hnamed hmethM hstM hkP hkPi hy (a := b) (cell := cellB) hcell
    (fun z h => by rw [h] at hobj; cases hobj) hselP hmethM habM hkP hkPi (g := g) hg (argsL := argsL) (rest := rest) (hlen _ hsigM) hstack hdg
  rcases hK m meth c ⟨T.setVm vm₁, locs, cells, slots⟩ { g with stack := rest } (.invokevirtual index) mk (Value.ref b :: argsL).toArray X₁ hg hsize hdg hW (X₁.named hnamed) (hpre vm₁ X₁.warmed) with ⟨v, B, X', hpost, hsteps⟩ | ⟨q, B, X', hpost, hsteps⟩
  · exact Or.inl ⟨v, vm₁, B, X₁.warmed, X', hpost, fun target h => hstep₁ _ fun acts => by rw [doInvoke_state]; exact hsteps.trans h⟩
  · exact Or.inr ⟨q, vm₁, B, X₁.warmed, X', hpost, hstep₁ _ fun acts => by rw [doInvoke_state]; exact hsteps⟩
theorem vx_callSX (X : Stand p l e R s m args below meth c T locs cells slots) (hexec : p.tables.exec = Jvm.exec) {own : String} {index : Nat} {y : MethodName} {bytes : ByteArray} {maxL : Nat} {ret : Option FieldType} {hh : List (Nat × Nat × Nat × Nat)}
    (hown : s.vm.findClass own = some m.cls) (hlink : (Cond.methodLink own index y).before args s = true) (hstat : (Cond.static y).before args s = true) (hinit : (Cond.initialized y.cls).before args s = true)
    (hcode : (Cond.codeWith y bytes maxL ret hh).before args s = true) (hy : y.cls ≠ "java/lang/invoke/MethodHandle" ∧ y.cls ≠ "java/lang/invoke/VarHandle")
    {W9 : Nat} {Pre : Pt → Array Value → Prop} {Post : Pt → Array Value → Option Value → Pt → Prop} {PostX : Pt → Array Value → Addr → Pt → Prop} (hK : vx_Back l R p e below s args y 3 W9 Pre Post PostX)
    {g : JFrame} (hg : g.method = m) (hsize : g.locals.size = c.maxLocals) {argsL rest : List Value} (hlen : ∀ sig, parseMethodDescriptor y.desc = some sig → argsL.length = sig.parameters.length)
    (hstack : g.stack = argsL.reverse ++ rest) (hW : 2 * g.monitorRoom + (rest.map fun v => v.category).sum ≤ W9) (hdg : decode c.code g.pc = .ok (.invokestatic index, 3))
    (hpre : ∀ vm₁, s.WarmedH vm₁ → Pre ⟨T.setVm vm₁, locs, cells, slots⟩ argsL.toArray) :
    (∃ (v : Option Value) (vm₁ : Vm) (B : Pt), s.WarmedH vm₁ ∧ Stand p l e R s m args below meth c B.U B.locs B.cells B.slots ∧ Post ⟨T.setVm vm₁, locs, cells, slots⟩ argsL.toArray v B ∧
      ∀ target, Steps p.tables e below (B.U.setTop { g with pc := g.pc + 3, stack := v.toList ++ rest }) target → Steps p.tables e below (T.setTop g) target) ∨
    (∃ (q : Addr) (vm₁ : Vm) (B : Pt), s.WarmedH vm₁ ∧ Stand p l e R s m args below meth c B.U B.locs B.cells B.slots ∧ PostX ⟨T.setVm vm₁, locs, cells, slots⟩ argsL.toArray q B ∧
      Steps p.tables e below (T.setTop g) ((B.U.setTop { g with stack := rest }).pushFrame (.throwing q))) := by
  obtain ⟨mk, methM, cM, hnamed, hmethM, -, -, -, -, -, -, hsigM⟩ := Cond.codeWith_spec hcode
  have hstatic : methM.isStatic = true := Cond.static_spec hnamed hmethM hstat
  obtain ⟨kP, hkP, -⟩ := className_of_methodNamed hnamed
  have hinitP : kP.init = .initialized := Cond.initialized_spec (findClass_of_methodNamed hnamed) hkP hinit
  obtain ⟨vm₁, X₁, hstep₁⟩ := X.invokestatic hexec hown hlink hnamed hmethM hstatic hkP hinitP hy (g := g) hg (argsL := argsL) (rest := rest) (hlen _ hsigM) hstack hdg
  rcases hK m meth c ⟨T.setVm vm₁, locs, cells, slots⟩ { g with stack := rest } (.invokestatic index) mk argsL.toArray X₁ hg hsize hdg hW (X₁.named hnamed) (hpre vm₁ X₁.warmed) with ⟨v, B, X', hpost, hsteps⟩ | ⟨q, B, X', hpost, hsteps⟩
  · exact Or.inl ⟨v, vm₁, B, X₁.warmed, X', hpost, fun target h => hstep₁ _ fun acts => by rw [doInvoke_state]; exact hsteps.trans h⟩
  · exact Or.inr ⟨q, vm₁, B, X₁.warmed, X', hpost, hstep₁ _ fun acts => by rw [doInvoke_state]; exact hsteps⟩
theorem vx_callVW (X : Stand p l e R s m args below meth c T locs cells slots) (hexec : p.tables.exec = Jvm.exec) {own C : String} {index : Nat} {y : MethodName} {bytes : ByteArray} {maxL : Nat} {ret : Option FieldType} {hh : List (Nat × Nat × Nat × Nat)}
    (hown : s.vm.findClass own = some m.cls) (hlink : (Cond.methodLink own index y).before args s = true) (hinst : (Cond.instanceMethod y).before args s = true) (hsel : (Cond.selects C y y).before args s = true)
    (hcode : (Cond.codeWith y bytes maxL ret hh).before args s = true) (hy : y.cls ≠ "java/lang/invoke/MethodHandle" ∧ y.cls ≠ "java/lang/invoke/VarHandle")
    {W9 : Nat} {Pre : Pt → Array Value → Prop} {Post : Pt → Array Value → Option Value → Pt → Prop} (hK : Back l R p e below s args y 3 W9 Pre Post)
    {b : Addr} {cellB : Cell} (hcell : T.heap[b]? = some cellB) (hobj : cellB.vm.isStatics = false) (hcls : s.vm.findClass C = some cellB.cls)
    {g : JFrame} (hg : g.method = m) (hsize : g.locals.size = c.maxLocals) {argsL rest : List Value} (hlen : ∀ sig, parseMethodDescriptor y.desc = some sig → argsL.length = sig.parameters.length)
    (hstack : g.stack = argsL.reverse ++ .ref b :: rest) (hW : 2 * g.monitorRoom + (rest.map fun v => v.category).sum ≤ W9) (hdg : decode c.code g.pc = .ok (.invokevirtual index, 3))
    (hpre : ∀ vm₁, s.WarmedH vm₁ → Pre ⟨T.setVm vm₁, locs, cells, slots⟩ (Value.ref b :: argsL).toArray) :
    ∃ (v : Option Value) (vm₁ : Vm) (B : Pt), s.WarmedH vm₁ ∧ Stand p l e R s m args below meth c B.U B.locs B.cells B.slots ∧ Post ⟨T.setVm vm₁, locs, cells, slots⟩ (Value.ref b :: argsL).toArray v B ∧
      ∀ target, Steps p.tables e below (B.U.setTop { g with pc := g.pc + 3, stack := v.toList ++ rest }) target → Steps p.tables e below (T.setTop g) target := by
  obtain ⟨mk, methM, hnamed, hmethM, hstM, habM⟩ := Cond.instanceMethod_spec hinst
  obtain ⟨m8, methM', cM, hn8, hmethM', -, -, -, -, -, -, hsigM⟩ := Cond.codeWith_spec hcode
  cases Option.some.inj (hn8.symm.trans hnamed)
  cases hmethM.symm.trans hmethM'
  obtain ⟨c2, r2, m2, q1, q2, q3, q4, kP, hkP, hkPi⟩ := Cond.selects_spec hsel
  cases hcls.symm.trans q1
  cases (State.methodFound?_of_named hnamed hy).symm.trans q2
  cases hnamed.symm.trans q3
  have hselP : selectMethod e.platform s.vm cellB.cls mk = .method mk := by rw [Launch.admits_selectMethod X.admits]; exact q4
  obtain ⟨vm₁, X₁, hstep₁⟩ := X.invokevirtual hexec hown hlink hnamed hmethM hstM hkP hkPi hy (a := b) (cell := cellB) hcell
    (fun z h => by rw [h] at hobj; cases hobj) hselP hmethM habM hkP hkPi (g := g) hg (argsL := argsL) (rest := rest) (hlen _ hsigM) hstack hdg
  obtain ⟨v, B, X', hpost, hsteps⟩ := hK m meth c ⟨T.setVm vm₁, locs, cells, slots⟩ { g with stack := rest } (.invokevirtual index) mk (Value.ref b :: argsL).toArray X₁ hg hsize hdg hW (X₁.named hnamed) (hpre vm₁ X₁.warmed)
  exact ⟨v, vm₁, B, X₁.warmed, X', hpost, fun target h => hstep₁ _ fun acts => by rw [doInvoke_state]; exact hsteps.trans h⟩
abbrev vx_CVW (R : Room) (s : State) (args : Array Value) (own C : String) (index : Nat) (y : MethodName) (bytes : ByteArray) (maxL : Nat) (ret : Option FieldType) (hh : List (Nat × Nat × Nat × Nat)) (ws : List Cond) (rm : Room) (mc ms n : Nat) : Prop :=
  (rm.cells = mc ∧ rm.slots = ms ∧ rm.frames + 1 ≤ R.frames ∧ 8 + (maxL + 11) + rm.locals ≤ R.locals ∧ (∀ w ∈ ws, ∀ (a' : Array Value) (U : State), s.WarmedH U.vm → w.before a' U = true) ∧ Cond.codeWith y bytes maxL ret hh ∈ ws) ∧
  (Cond.codeWith y bytes maxL ret hh).before args s = true ∧ (Cond.initialized y.cls).before args s = true ∧ (y.cls ≠ "java/lang/invoke/MethodHandle" ∧ y.cls ≠ "java/lang/invoke/VarHandle") ∧
  (∀ sig, parseMethodDescriptor y.desc = some sig → n = sig.parameters.length) ∧ (Cond.methodLink own index y).before args s = true ∧ (Cond.instanceMethod y).before args s = true ∧ (Cond.selects C y y).before args s = true
theorem vx_cwVW {own C : String} {index maxL mc ms : Nat} {y : MethodName} {bytes : ByteArray} {ret : Option FieldType} {hh : List (Nat × Nat × Nat × Nat)} {Ts ws ws' : List Cond} {rm : Room} (n : Nat) (ht : ∀ w ∈ Ts, w.before args s = true) (hT : GoodIn Ts (wsV own index C y ws)) (hw : ws = Cond.codeWith y bytes maxL ret hh :: ws') (hrc : rm.cells = mc) (hrs : rm.slots = ms)
    (hd : y.cls = C ∧ y.cls ≠ "java/lang/invoke/MethodHandle" ∧ y.cls ≠ "java/lang/invoke/VarHandle" ∧ (parseMethodDescriptor y.desc).map (fun d => d.parameters.length) = some n) (hR : rm.frames + 1 ≤ R.frames ∧ 8 + (maxL + 11) + rm.locals ≤ R.locals) :
    vx_CVW R s args own C index y bytes maxL ret hh ws rm mc ms n := by
  obtain ⟨hC, hd⟩ := hd
  subst hC
  have ok : ∀ w ∈ wsV own index y.cls y ws, w.before args s = true := fun w h => ht w (hT w h).1
  have hG : GoodIn Ts ws := fun w h => hT w (by unfold wsV; exact List.mem_append_right _ h)
  have hc : Cond.codeWith y bytes maxL ret hh ∈ ws := by rw [hw]; exact List.mem_cons_self
  refine ⟨⟨hrc, hrs, hR.1, hR.2, pay_in ht hG, hc⟩, ht _ (hG _ hc).1, ok _ (by simp [wsV]), ⟨hd.1, hd.2.1⟩, fun sig h => ?_, ok _ (by simp [wsV]), ok _ (by simp [wsV]), ok _ (by simp [wsV])⟩
  have h2 := hd.2.2
  rw [h] at h2
  exact (Option.some.inj h2).symm
theorem vx_runVW {y : MethodName} {bytes cc : ByteArray} {maxL nL mc ms n index : Nat} {ret : Option FieldType} {hh : List (Nat × Nat × Nat × Nat)} {ws : List Cond} {rm : Room} {Pc : Array Value → State → Prop} {Qc : Array Value → State → Outcome → State → Prop} {free : Addr → Prop} {Ts : List Cond} {own C : String} {b : Addr} {As rest : List Value} {g : JFrame}
    (S : CallFix p m c cc nL s args Ts own) (hM : Met l y ws rm Pc Qc mc ms free) (cw : vx_CVW R s args own C index y bytes maxL ret hh ws rm mc ms n) (hp : PreV s H C b Pc As)
    (hg : g.method = m) (hn : As.length = n) (hsize : g.locals.size = nL) (hstack : g.stack = As.reverse ++ .ref b :: rest) (hW : 2 * g.monitorRoom + (rest.map fun v => v.category).sum ≤ 8) (hdg : decode cc g.pc = .ok (.invokevirtual index, 3)) (hf : cells + mc ≤ R.cells ∧ slots + ms ≤ R.slots) :
    va_Run p l e R s m args below meth c H locs cells slots mc ms g rest (Qc (Value.ref b :: As).toArray) free := by
  obtain ⟨⟨hrc, hrs, hfr, hlo, hws, hcw⟩, hcode, hini, hy, hlen, hl, hin, hse⟩ := cw
  have hK : Back l R p e below s args y 3 8 (PreOf R mc ms Pc) (PostOf Qc mc ms free) := va_backW (hh := hh) (bytes := bytes) (maxL := maxL) (ret := ret) hM hp.1 hrc hrs hfr hlo hws hcw (fun a' U hW => word_at hW (Or.inl (by first | rfl | simp [Cond.onTables, Cond.keeps, Cond.steady])) hini)
  obtain ⟨hx, hb, hml, ho, -⟩ := S
  obtain ⟨-, ⟨cellB, hcB, hoB, hclB⟩, hPc⟩ := hp
  intro T hT X
  obtain ⟨v, vm₁, ⟨U', l2, c2, s2⟩, hW₁, X', ⟨g', mk, t, L, e1, e2, hq, h1, hL, h2, h3⟩, st⟩ := vx_callVW X hx (C := C) (hh := hh) (bytes := bytes) (maxL := maxL) (ret := ret) ho hl hin hse hcode hy hK (by rw [hT]; exact hcB) hoB hclB hg (hsize.trans hml.symm) (argsL := As) (rest := rest) (fun sig h => hn.trans (hlen sig h)) hstack hW (by rw [hb]; exact hdg)
    (fun vm₁ hW₁ => ⟨hf.1, hf.2, hPc (T.setVm vm₁) hT hW₁⟩)
  dsimp only [Pt.U, Pt.locs, Pt.cells, Pt.slots] at X' e1 e2 h1 h2 h3 st
  subst h1; subst h2; subst h3
  exact ⟨v, (T.setVm vm₁).calling g' mk (Value.ref b :: As).toArray, t, U', L, hT, X', hL, e1, e2, hq, st⟩
section
variable {y : MethodName} {bytes cc : ByteArray} {maxL nL mc ms n index : Nat} {ret : Option FieldType} {ws : List Cond} {rm : Room} {Pc : Array Value → State → Prop} {Qc : Array Value → State → Outcome → State → Prop} {XC : String → State → State → Prop} {free : Addr → Prop} {Ts : List Cond} {own C : String} {b : Addr} {As rest : List Value} {g : JFrame}
theorem vx_runVX {hh : List (Nat × Nat × Nat × Nat)} (S : CallFix p m c cc nL s args Ts own) (hM : vx_Met l y ws rm Pc Qc XC mc ms free) (cw : vx_CVW R s args own C index y bytes maxL ret hh ws rm mc ms n) (hp : PreV s H C b Pc As)
    (hg : g.method = m) (hn : As.length = n) (hsize : g.locals.size = nL) (hstack : g.stack = As.reverse ++ .ref b :: rest) (hW : 2 * g.monitorRoom + (rest.map fun v => v.category).sum ≤ 8) (hdg : decode cc g.pc = .ok (.invokevirtual index, 3)) (hf : cells + mc ≤ R.cells ∧ slots + ms ≤ R.slots) :
    vx_Run p l e R s m args below meth c H locs cells slots mc ms g rest (Qc (Value.ref b :: As).toArray) XC free := by
  obtain ⟨⟨hrc, hrs, hfr, hlo, hws, hcw⟩, hcode, hini, hy, hlen, hl, hin, hse⟩ := cw
  have hK : vx_Back l R p e below s args y 3 8 (PreOf R mc ms Pc) (PostOf Qc mc ms free) (vx_Post XC mc ms free) := vx_backW (hh := hh) (bytes := bytes) (maxL := maxL) (ret := ret) hM hp.1 hrc hrs hfr hlo hws hcw (fun a' U hW => word_at hW (Or.inl (by first | rfl | simp [Cond.onTables, Cond.keeps, Cond.steady])) hini)
  obtain ⟨hx, hb, hml, ho, -⟩ := S
  obtain ⟨-, ⟨cellB, hcB, hoB, hclB⟩, hPc⟩ := hp
  intro T hT X
  rcases vx_callVX X hx (C := C) (hh := hh) (bytes := bytes) (maxL := maxL) (ret := ret) ho hl hin hse hcode hy hK (by rw [hT]; exact hcB) hoB hclB hg (hsize.trans hml.symm) (argsL := As) (rest := rest) (fun sig h => hn.trans (hlen sig h)) hstack hW (by rw [hb]; exact hdg)
    (fun vm₁ hW₁ => ⟨hf.1, hf.2, hPc (T.setVm vm₁) hT hW₁⟩) with ⟨v, vm₁, ⟨U', l2, c2, s2⟩, hW₁, X', ⟨g', mk, t, L, e1, e2, hq, h1, hL, h2, h3⟩, st⟩ | ⟨q, vm₁, ⟨U', l2, c2, s2⟩, hW₁, X', ⟨g', mk, t, L, E, ce, e1, e2, hq, hce, hcv, hcl, h1, hL, h2, h3⟩, st⟩
  · dsimp only [Pt.U, Pt.locs, Pt.cells, Pt.slots] at X' e1 e2 h1 h2 h3 st
    subst h1; subst h2; subst h3
    exact Or.inl ⟨v, (T.setVm vm₁).calling g' mk (Value.ref b :: As).toArray, t, U', L, hT, X', hL, e1, e2, hq, st⟩
  · dsimp only [Pt.U, Pt.locs, Pt.cells, Pt.slots] at X' e1 e2 h1 h2 h3 st hcl
    subst h1; subst h2; subst h3
    exact Or.inr ⟨q, (T.setVm vm₁).calling g' mk (Value.ref b :: As).toArray, t, U', L, E, ce, hT, X', hL, e1, e2, hq, hce, hcv, vx_cls hW₁ hcl, st⟩
theorem vx_runSX {hh : List (Nat × Nat × Nat × Nat)} (S : CallFix p m c cc nL s args Ts own) (hM : vx_Met l y ws rm Pc Qc XC mc ms free) (cw : vx_CSW R s args own index y bytes maxL ret hh ws rm mc ms n) (hp : PreS s H Pc As)
    (hg : g.method = m) (hn : As.length = n) (hsize : g.locals.size = nL) (hstack : g.stack = As.reverse ++ rest) (hW : 2 * g.monitorRoom + (rest.map fun v => v.category).sum ≤ 8) (hdg : decode cc g.pc = .ok (.invokestatic index, 3)) (hf : cells + mc ≤ R.cells ∧ slots + ms ≤ R.slots) :
    vx_Run p l e R s m args below meth c H locs cells slots mc ms g rest (Qc As.toArray) XC free := by
  obtain ⟨⟨hrc, hrs, hfr, hlo, hws, hcw⟩, hcode, hini, hy, hlen, hl, hstt⟩ := cw
  have hK : vx_Back l R p e below s args y 3 8 (PreOf R mc ms Pc) (PostOf Qc mc ms free) (vx_Post XC mc ms free) := vx_backW (hh := hh) (bytes := bytes) (maxL := maxL) (ret := ret) hM hp.1 hrc hrs hfr hlo hws hcw (fun a' U hW => word_at hW (Or.inl (by first | rfl | simp [Cond.onTables, Cond.keeps, Cond.steady])) hini)
  obtain ⟨hx, hb, hml, ho, -⟩ := S
  intro T hT X
  rcases vx_callSX X hx (hh := hh) (bytes := bytes) (maxL := maxL) (ret := ret) ho hl hstt hini hcode hy hK hg (hsize.trans hml.symm) (argsL := As) (rest := rest) (fun sig h => hn.trans (hlen sig h)) hstack hW (by rw [hb]; exact hdg)
    (fun vm₁ hW₁ => ⟨hf.1, hf.2, hp.2 (T.setVm vm₁) hT hW₁⟩) with ⟨v, vm₁, ⟨U', l2, c2, s2⟩, hW₁, X', ⟨g', mk, t, L, e1, e2, hq, h1, hL, h2, h3⟩, st⟩ | ⟨q, vm₁, ⟨U', l2, c2, s2⟩, hW₁, X', ⟨g', mk, t, L, E, ce, e1, e2, hq, hce, hcv, hcl, h1, hL, h2, h3⟩, st⟩
  · dsimp only [Pt.U, Pt.locs, Pt.cells, Pt.slots] at X' e1 e2 h1 h2 h3 st
    subst h1; subst h2; subst h3
    exact Or.inl ⟨v, (T.setVm vm₁).calling g' mk As.toArray, t, U', L, hT, X', hL, e1, e2, hq, st⟩
  · dsimp only [Pt.U, Pt.locs, Pt.cells, Pt.slots] at X' e1 e2 h1 h2 h3 st hcl
    subst h1; subst h2; subst h3
    exact Or.inr ⟨q, (T.setVm vm₁).calling g' mk As.toArray, t, U', L, E, ce, hT, X', hL, e1, e2, hq, hce, hcv, vx_cls hW₁ hcl, st⟩
end
end VXH
theorem vx_ofWH {l : Launch} {y : MethodName} {ws ws' : List Cond} {rm : Room} {Pc : Array Value → State → Prop} {Qc : Array Value → State → Outcome → State → Prop} {XC : String → State → State → Prop} {mc ms : Nat} {free : Addr → Prop} {cc : ByteArray} {maxL : Nat} {ret : Option FieldType} {hh : List (Nat × Nat × Nat × Nat)}
    (hy : plainName y.cls = true) (hw : ws = Cond.codeWith y cc maxL ret hh :: ws')
    (body : ∀ p e s m args below meth c s₁, BodyLoose p l y (headSpec ws rm) cc maxL ret e s m args below meth c s₁ → c.maxLocals = maxL → Pc args s →
      W p l e (headSpec ws rm).room s m args below meth c s.heap [] 0 0 (vx_MQ below Qc XC args s mc ms free) (entryFrame m args maxL)) : vx_Met l y ws rm Pc Qc XC mc ms free := by
  refine MetFree.of_bodyS (code := cc) (maxLocals := maxL) (ret := ret) hy ?_ ?_
  · intro args s m h hn
    obtain ⟨m9, meth, c, hn9, h1, h2, h3, h4, -, h5, h6, -⟩ := Cond.codeWith_spec (atoms_spec (ws := ws) h _ (by rw [hw]; exact List.mem_cons_self))
    cases hn.symm.trans hn9
    exact ⟨meth, c, h1, h2, h3, h4, h5, h6⟩
  · intro p e s m args below meth c s₁ B hml hP _
    have hh0 : s₁.heap = s.heap := by rw [B.state]; rfl
    obtain ⟨t, a1, o, b1, b2, b3⟩ := body p e s m args below meth c s₁ B hml hP s₁ hh0 (Stand.of_body B)
    exact ⟨t, o, a1, b1, b2, b3⟩
/-! ===== END ===== -/
end
section
/-! ===== printed names, fields ===== -/
def RX0 : String := "Hearingpay$Hearing"
def TX0 : u_T := fun k => match k with
  | 0 => ("Hearingpay$Hearing", "number", "I", true)
  | 1 => ("Hearingpay$Hearing", "matter", "LHearingpay$Matter;", true)
  | 2 => ("Hearingpay$Hearing", "hours", "I", true)
  | 3 => ("Hearingpay$Hearing", "charges", "[I", true)
  | 4 => ("Hearingpay$Hearing", "state", "I", false)
  | 5 => ("Hearingpay$Hearing", "room", "I", false)
  | 6 => ("Hearingpay$Hearing", "interpreter", "I", false)
  | 7 => ("Hearingpay$Hearing", "from", "I", false)
  | 8 => ("Hearingpay$Hearing", "isFirstTold", "Z", false)
  | _ => ("Hearingpay$Hearing", "isSecondTold", "Z", false)
def tyX0 : Nat → FieldType := fun k => match k with
  | 0 => .int
  | 1 => .object "Hearingpay$Matter"
  | 2 => .int
  | 3 => .array .int
  | 4 => .int
  | 5 => .int
  | 6 => .int
  | 7 => .int
  | 8 => .boolean
  | _ => .boolean
abbrev wsX00 : List Cond := u_ws RX0 TX0 10
theorem nmX0 : ∀ a, a < 10 → ∀ b, b < 10 → a ≠ b → (TX0 a).2.1 ≠ (TX0 b).2.1 := by decide +kernel
theorem tyX0_ok : ∀ k, k < 10 → parseFieldDescriptor (TX0 k).2.2.1 = some (tyX0 k) := by decide +kernel
abbrev cX0_init : ByteArray := prog_2_method_1_code
def yX0_init : MethodName := ⟨RX0, "<init>", "(ILHearingpay$Matter;I)V"⟩
abbrev cX0_settleAt : ByteArray := prog_2_method_2_code
def yX0_settleAt : MethodName := ⟨RX0, "settleAt", "(III)V"⟩
abbrev cX0_takesPartOf : ByteArray := prog_2_method_3_code
def yX0_takesPartOf : MethodName := ⟨RX0, "takesPartOf", "(II)Z"⟩
abbrev cX0_needs : ByteArray := prog_2_method_4_code
def yX0_needs : MethodName := ⟨RX0, "needs", "(II)Z"⟩
abbrev cX0_reasonAgainst : ByteArray := prog_2_method_5_code
def yX0_reasonAgainst : MethodName := ⟨RX0, "reasonAgainst", "(LHearingpay$Matter;II)I"⟩
abbrev cX0_tell : ByteArray := prog_2_method_6_code
def yX0_tell : MethodName := ⟨RX0, "tell", "(I)V"⟩
abbrev cX0_notices : ByteArray := prog_2_method_7_code
def yX0_notices : MethodName := ⟨RX0, "notices", "()I"⟩
abbrev cX0_charged : ByteArray := prog_2_method_8_code
def yX0_charged : MethodName := ⟨RX0, "charged", "()I"⟩
abbrev cX0_end : ByteArray := prog_2_method_9_code
def yX0_end : MethodName := ⟨RX0, "end", "()V"⟩
def RX1 : String := "Hearingpay$Interpreter"
def TX1 : u_T := fun k => match k with
  | 0 => ("Hearingpay$Interpreter", "languages", "I", false)
  | 1 => ("Hearingpay$Interpreter", "price", "I", false)
  | 2 => ("Hearingpay$Interpreter", "paidHours", "[I", true)
  | 3 => ("Hearingpay$Interpreter", "payers", "[LHearingpay$Matter;", true)
  | _ => ("Hearingpay$Interpreter", "amounts", "[I", true)
def tyX1 : Nat → FieldType := fun k => match k with
  | 0 => .int
  | 1 => .int
  | 2 => .array .int
  | 3 => .array (.object "Hearingpay$Matter")
  | _ => .array .int
abbrev wsX10 : List Cond := u_ws RX1 TX1 5
theorem nmX1 : ∀ a, a < 5 → ∀ b, b < 5 → a ≠ b → (TX1 a).2.1 ≠ (TX1 b).2.1 := by decide +kernel
theorem tyX1_ok : ∀ k, k < 5 → parseFieldDescriptor (TX1 k).2.2.1 = some (tyX1 k) := by decide +kernel
abbrev cX1_init : ByteArray := prog_3_method_1_code
def yX1_init : MethodName := ⟨RX1, "<init>", "()V"⟩
abbrev cX1_placeOf : ByteArray := prog_3_method_2_code
def yX1_placeOf : MethodName := ⟨RX1, "placeOf", "(I)I"⟩
abbrev cX1_knows : ByteArray := prog_3_method_3_code
def yX1_knows : MethodName := ⟨RX1, "knows", "(I)Z"⟩
abbrev cX1_payer : ByteArray := prog_3_method_4_code
def yX1_payer : MethodName := ⟨RX1, "payer", "(II)LHearingpay$Matter;"⟩
abbrev cX1_keep : ByteArray := prog_3_method_5_code
def yX1_keep : MethodName := ⟨RX1, "keep", "(ILHearingpay$Matter;I)V"⟩
abbrev cX1_take : ByteArray := prog_3_method_6_code
def yX1_take : MethodName := ⟨RX1, "take", "(IILHearingpay$Matter;)I"⟩
abbrev cX1_hoursPaidBy : ByteArray := prog_3_method_7_code
def yX1_hoursPaidBy : MethodName := ⟨RX1, "hoursPaidBy", "(LHearingpay$Matter;I)I"⟩
def RX2 : String := "Hearingpay$Matter"
def TX2 : u_T := fun k => match k with
  | 0 => ("Hearingpay$Matter", "number", "I", true)
  | 1 => ("Hearingpay$Matter", "judge", "I", true)
  | 2 => ("Hearingpay$Matter", "first", "I", true)
  | 3 => ("Hearingpay$Matter", "second", "I", true)
  | 4 => ("Hearingpay$Matter", "language", "I", true)
  | 5 => ("Hearingpay$Matter", "state", "I", false)
  | 6 => ("Hearingpay$Matter", "balance", "I", false)
  | _ => ("Hearingpay$Matter", "end", "I", false)
def tyX2 : Nat → FieldType := fun k => match k with
  | 0 => .int
  | 1 => .int
  | 2 => .int
  | 3 => .int
  | 4 => .int
  | 5 => .int
  | 6 => .int
  | _ => .int
abbrev wsX20 : List Cond := u_ws RX2 TX2 8
theorem nmX2 : ∀ a, a < 8 → ∀ b, b < 8 → a ≠ b → (TX2 a).2.1 ≠ (TX2 b).2.1 := by decide +kernel
theorem tyX2_ok : ∀ k, k < 8 → parseFieldDescriptor (TX2 k).2.2.1 = some (tyX2 k) := by decide +kernel
abbrev cX2_init : ByteArray := prog_4_method_1_code
def yX2_init : MethodName := ⟨RX2, "<init>", "(IIIIII)V"⟩
abbrev cX2_isOpen : ByteArray := prog_4_method_2_code
def yX2_isOpen : MethodName := ⟨RX2, "isOpen", "()Z"⟩
abbrev cX2_isOf : ByteArray := prog_4_method_3_code
def yX2_isOf : MethodName := ⟨RX2, "isOf", "(I)Z"⟩
abbrev cX2_runTerm : ByteArray := prog_4_method_4_code
def yX2_runTerm : MethodName := ⟨RX2, "runTerm", "(I)V"⟩
def RX3 : String := "Hearingpay"
def TX3 : u_T := fun k => match k with
  | 0 => ("Hearingpay", "interpreters", "[LHearingpay$Interpreter;", true)
  | 1 => ("Hearingpay", "waived", "[Z", true)
  | 2 => ("Hearingpay", "matters", "[LHearingpay$Matter;", true)
  | 3 => ("Hearingpay", "hearings", "[LHearingpay$Hearing;", true)
  | 4 => ("Hearingpay", "matterCount", "I", false)
  | 5 => ("Hearingpay", "hearingCount", "I", false)
  | _ => ("Hearingpay", "now", "I", false)
def tyX3 : Nat → FieldType := fun k => match k with
  | 0 => .array (.object "Hearingpay$Interpreter")
  | 1 => .array .boolean
  | 2 => .array (.object "Hearingpay$Matter")
  | 3 => .array (.object "Hearingpay$Hearing")
  | 4 => .int
  | 5 => .int
  | _ => .int
abbrev wsX30 : List Cond := u_ws RX3 TX3 7
theorem nmX3 : ∀ a, a < 7 → ∀ b, b < 7 → a ≠ b → (TX3 a).2.1 ≠ (TX3 b).2.1 := by decide +kernel
theorem tyX3_ok : ∀ k, k < 7 → parseFieldDescriptor (TX3 k).2.2.1 = some (tyX3 k) := by decide +kernel
abbrev cX3_init : ByteArray := prog_1_method_1_code
def yX3_init : MethodName := ⟨RX3, "<init>", "()V"⟩
abbrev cX3_interpreter : ByteArray := prog_1_method_2_code
def yX3_interpreter : MethodName := ⟨RX3, "interpreter", "(III)I"⟩
abbrev cX3_waive : ByteArray := prog_1_method_3_code
def yX3_waive : MethodName := ⟨RX3, "waive", "(IZ)Z"⟩
abbrev cX3_file : ByteArray := prog_1_method_4_code
def yX3_file : MethodName := ⟨RX3, "file", "(IIII)I"⟩
abbrev cX3_pay : ByteArray := prog_1_method_5_code
def yX3_pay : MethodName := ⟨RX3, "pay", "(II)I"⟩
abbrev cX3_decide : ByteArray := prog_1_method_6_code
def yX3_decide : MethodName := ⟨RX3, "decide", "(I)I"⟩
abbrev cX3_appeal : ByteArray := prog_1_method_7_code
def yX3_appeal : MethodName := ⟨RX3, "appeal", "(I)I"⟩
abbrev cX3_settle : ByteArray := prog_1_method_8_code
def yX3_settle : MethodName := ⟨RX3, "settle", "(IZ)I"⟩
abbrev cX3_close : ByteArray := prog_1_method_9_code
def yX3_close : MethodName := ⟨RX3, "close", "(I)I"⟩
abbrev cX3_plan : ByteArray := prog_1_method_10_code
def yX3_plan : MethodName := ⟨RX3, "plan", "(IIIII)I"⟩
abbrev cX3_move : ByteArray := prog_1_method_11_code
def yX3_move : MethodName := ⟨RX3, "move", "(IIII)I"⟩
abbrev cX3_drop : ByteArray := prog_1_method_12_code
def yX3_drop : MethodName := ⟨RX3, "drop", "(I)I"⟩
abbrev cX3_notice : ByteArray := prog_1_method_13_code
def yX3_notice : MethodName := ⟨RX3, "notice", "(II)Z"⟩
abbrev cX3_pass : ByteArray := prog_1_method_14_code
def yX3_pass : MethodName := ⟨RX3, "pass", "(I)I"⟩
abbrev cX3_clash : ByteArray := prog_1_method_15_code
def yX3_clash : MethodName := ⟨RX3, "clash", "(IIIII)I"⟩
abbrev cX3_at : ByteArray := prog_1_method_16_code
def yX3_at : MethodName := ⟨RX3, "at", "(III)I"⟩
abbrev cX3_about : ByteArray := prog_1_method_17_code
def yX3_about : MethodName := ⟨RX3, "about", "(II)I"⟩
abbrev cX3_hearing : ByteArray := prog_1_method_18_code
def yX3_hearing : MethodName := ⟨RX3, "hearing", "(II)I"⟩
abbrev cX3_paidBy : ByteArray := prog_1_method_19_code
def yX3_paidBy : MethodName := ⟨RX3, "paidBy", "(II)I"⟩
abbrev cX3_balances : ByteArray := prog_1_method_20_code
def yX3_balances : MethodName := ⟨RX3, "balances", "()I"⟩
abbrev cX3_hour : ByteArray := prog_1_method_21_code
def yX3_hour : MethodName := ⟨RX3, "hour", "()I"⟩
abbrev cX3_isIn : ByteArray := prog_1_method_22_code
def yX3_isIn : MethodName := ⟨RX3, "isIn", "(II)Z"⟩
abbrev cX3_isInOrNone : ByteArray := prog_1_method_23_code
def yX3_isInOrNone : MethodName := ⟨RX3, "isInOrNone", "(II)Z"⟩
abbrev cX3_isCalendarHour : ByteArray := prog_1_method_24_code
def yX3_isCalendarHour : MethodName := ⟨RX3, "isCalendarHour", "(I)Z"⟩
abbrev cX3_howMany : ByteArray := prog_1_method_25_code
def yX3_howMany : MethodName := ⟨RX3, "howMany", "(I)I"⟩
abbrev cX3_interpreterAt : ByteArray := prog_1_method_26_code
def yX3_interpreterAt : MethodName := ⟨RX3, "interpreterAt", "(I)LHearingpay$Interpreter;"⟩
abbrev cX3_matterAt : ByteArray := prog_1_method_27_code
def yX3_matterAt : MethodName := ⟨RX3, "matterAt", "(I)LHearingpay$Matter;"⟩
abbrev cX3_hearingAt : ByteArray := prog_1_method_28_code
def yX3_hearingAt : MethodName := ⟨RX3, "hearingAt", "(I)LHearingpay$Hearing;"⟩
abbrev cX3_isToBegin : ByteArray := prog_1_method_29_code
def yX3_isToBegin : MethodName := ⟨RX3, "isToBegin", "(LHearingpay$Hearing;)Z"⟩
abbrev cX3_isAsNeeded : ByteArray := prog_1_method_30_code
def yX3_isAsNeeded : MethodName := ⟨RX3, "isAsNeeded", "(LHearingpay$Matter;I)Z"⟩
abbrev cX3_clashReason : ByteArray := prog_1_method_31_code
def yX3_clashReason : MethodName := ⟨RX3, "clashReason", "(LHearingpay$Hearing;LHearingpay$Matter;IIII)I"⟩
abbrev cX3_put : ByteArray := prog_1_method_32_code
def yX3_put : MethodName := ⟨RX3, "put", "(LHearingpay$Hearing;III)V"⟩
abbrev cX3_leave : ByteArray := prog_1_method_33_code
def yX3_leave : MethodName := ⟨RX3, "leave", "(LHearingpay$Hearing;)V"⟩
abbrev cX3_dropAllOf : ByteArray := prog_1_method_34_code
def yX3_dropAllOf : MethodName := ⟨RX3, "dropAllOf", "(LHearingpay$Matter;)I"⟩
abbrev cX3_endHearings : ByteArray := prog_1_method_35_code
def yX3_endHearings : MethodName := ⟨RX3, "endHearings", "()I"⟩
abbrev cX3_runTerms : ByteArray := prog_1_method_36_code
def yX3_runTerms : MethodName := ⟨RX3, "runTerms", "()V"⟩
abbrev cX3_feeFor : ByteArray := prog_1_method_37_code
def yX3_feeFor : MethodName := ⟨RX3, "feeFor", "(LHearingpay$Matter;I)I"⟩
abbrev cX3_paidHoursOf : ByteArray := prog_1_method_38_code
def yX3_paidHoursOf : MethodName := ⟨RX3, "paidHoursOf", "(LHearingpay$Matter;)I"⟩
def RX4 : String := "HearingpayModel"
def TX4 : u_T := fun k => match k with
  | 0 => ("HearingpayModel", "thrown", "I", false)
  | 1 => ("HearingpayModel", "now", "I", false)
  | 2 => ("HearingpayModel", "languages", "[I", true)
  | 3 => ("HearingpayModel", "price", "[I", true)
  | 4 => ("HearingpayModel", "isWaived", "[Z", true)
  | 5 => ("HearingpayModel", "matters", "I", false)
  | 6 => ("HearingpayModel", "state", "[I", true)
  | 7 => ("HearingpayModel", "judge", "[I", true)
  | 8 => ("HearingpayModel", "first", "[I", true)
  | 9 => ("HearingpayModel", "second", "[I", true)
  | 10 => ("HearingpayModel", "language", "[I", true)
  | 11 => ("HearingpayModel", "balance", "[I", true)
  | 12 => ("HearingpayModel", "end", "[I", true)
  | 13 => ("HearingpayModel", "hearings", "I", false)
  | 14 => ("HearingpayModel", "how", "[I", true)
  | 15 => ("HearingpayModel", "matter", "[I", true)
  | 16 => ("HearingpayModel", "room", "[I", true)
  | 17 => ("HearingpayModel", "speaker", "[I", true)
  | 18 => ("HearingpayModel", "from", "[I", true)
  | 19 => ("HearingpayModel", "hours", "[I", true)
  | 20 => ("HearingpayModel", "notices", "[I", true)
  | 21 => ("HearingpayModel", "charged", "[I", true)
  | 22 => ("HearingpayModel", "payer", "[I", true)
  | _ => ("HearingpayModel", "paid", "[I", true)
def tyX4 : Nat → FieldType := fun k => match k with
  | 0 => .int
  | 1 => .int
  | 2 => .array .int
  | 3 => .array .int
  | 4 => .array .boolean
  | 5 => .int
  | 6 => .array .int
  | 7 => .array .int
  | 8 => .array .int
  | 9 => .array .int
  | 10 => .array .int
  | 11 => .array .int
  | 12 => .array .int
  | 13 => .int
  | 14 => .array .int
  | 15 => .array .int
  | 16 => .array .int
  | 17 => .array .int
  | 18 => .array .int
  | 19 => .array .int
  | 20 => .array .int
  | 21 => .array .int
  | 22 => .array .int
  | _ => .array .int
abbrev wsX40 : List Cond := u_ws RX4 TX4 24
theorem nmX4 : ∀ a, a < 24 → ∀ b, b < 24 → a ≠ b → (TX4 a).2.1 ≠ (TX4 b).2.1 := by decide +kernel
theorem tyX4_ok : ∀ k, k < 24 → parseFieldDescriptor (TX4 k).2.2.1 = some (tyX4 k) := by decide +kernel
abbrev cX4_init : ByteArray := prog_6_method_1_code
def yX4_init : MethodName := ⟨RX4, "<init>", "()V"⟩
abbrev cX4_thrown : ByteArray := prog_6_method_2_code
def yX4_thrown : MethodName := ⟨RX4, "thrown", "()I"⟩
abbrev cX4_in : ByteArray := prog_6_method_3_code
def yX4_in : MethodName := ⟨RX4, "in", "(III)Z"⟩
abbrev cX4_isMatter : ByteArray := prog_6_method_4_code
def yX4_isMatter : MethodName := ⟨RX4, "isMatter", "(I)Z"⟩
abbrev cX4_isHearing : ByteArray := prog_6_method_5_code
def yX4_isHearing : MethodName := ⟨RX4, "isHearing", "(I)Z"⟩
abbrev cX4_isSpeaker : ByteArray := prog_6_method_6_code
def yX4_isSpeaker : MethodName := ⟨RX4, "isSpeaker", "(I)Z"⟩
abbrev cX4_interpreter : ByteArray := prog_6_method_7_code
def yX4_interpreter : MethodName := ⟨RX4, "interpreter", "(III)I"⟩
abbrev cX4_waive : ByteArray := prog_6_method_8_code
def yX4_waive : MethodName := ⟨RX4, "waive", "(IZ)Z"⟩
abbrev cX4_file : ByteArray := prog_6_method_9_code
def yX4_file : MethodName := ⟨RX4, "file", "(IIII)I"⟩
abbrev cX4_pay : ByteArray := prog_6_method_10_code
def yX4_pay : MethodName := ⟨RX4, "pay", "(II)I"⟩
abbrev cX4_leaves : ByteArray := prog_6_method_11_code
def yX4_leaves : MethodName := ⟨RX4, "leaves", "(I)V"⟩
abbrev cX4_comes : ByteArray := prog_6_method_12_code
def yX4_comes : MethodName := ⟨RX4, "comes", "(I)V"⟩
abbrev cX4_decide : ByteArray := prog_6_method_13_code
def yX4_decide : MethodName := ⟨RX4, "decide", "(I)I"⟩
abbrev cX4_appeal : ByteArray := prog_6_method_14_code
def yX4_appeal : MethodName := ⟨RX4, "appeal", "(I)I"⟩
abbrev cX4_settle : ByteArray := prog_6_method_15_code
def yX4_settle : MethodName := ⟨RX4, "settle", "(IZ)I"⟩
abbrev cX4_close : ByteArray := prog_6_method_16_code
def yX4_close : MethodName := ⟨RX4, "close", "(I)I"⟩
abbrev cX4_meets : ByteArray := prog_6_method_17_code
def yX4_meets : MethodName := ⟨RX4, "meets", "(IIII)Z"⟩
abbrev cX4_clashes : ByteArray := prog_6_method_18_code
def yX4_clashes : MethodName := ⟨RX4, "clashes", "(IIIIIII)Z"⟩
abbrev cX4_reason : ByteArray := prog_6_method_19_code
def yX4_reason : MethodName := ⟨RX4, "reason", "(IIIIII)I"⟩
abbrev cX4_fits : ByteArray := prog_6_method_20_code
def yX4_fits : MethodName := ⟨RX4, "fits", "(II)Z"⟩
abbrev cX4_isOpen : ByteArray := prog_6_method_21_code
def yX4_isOpen : MethodName := ⟨RX4, "isOpen", "(I)Z"⟩
abbrev cX4_plan : ByteArray := prog_6_method_22_code
def yX4_plan : MethodName := ⟨RX4, "plan", "(IIIII)I"⟩
abbrev cX4_move : ByteArray := prog_6_method_23_code
def yX4_move : MethodName := ⟨RX4, "move", "(IIII)I"⟩
abbrev cX4_drop : ByteArray := prog_6_method_24_code
def yX4_drop : MethodName := ⟨RX4, "drop", "(I)I"⟩
abbrev cX4_notice : ByteArray := prog_6_method_25_code
def yX4_notice : MethodName := ⟨RX4, "notice", "(II)Z"⟩
abbrev cX4_ends : ByteArray := prog_6_method_26_code
def yX4_ends : MethodName := ⟨RX4, "ends", "()I"⟩
abbrev cX4_pass : ByteArray := prog_6_method_27_code
def yX4_pass : MethodName := ⟨RX4, "pass", "(I)I"⟩
abbrev cX4_clash : ByteArray := prog_6_method_28_code
def yX4_clash : MethodName := ⟨RX4, "clash", "(IIIII)I"⟩
abbrev cX4_at : ByteArray := prog_6_method_29_code
def yX4_at : MethodName := ⟨RX4, "at", "(III)I"⟩
abbrev cX4_toCome : ByteArray := prog_6_method_30_code
def yX4_toCome : MethodName := ⟨RX4, "toCome", "(I)I"⟩
abbrev cX4_about : ByteArray := prog_6_method_31_code
def yX4_about : MethodName := ⟨RX4, "about", "(II)I"⟩
abbrev cX4_hearing : ByteArray := prog_6_method_32_code
def yX4_hearing : MethodName := ⟨RX4, "hearing", "(II)I"⟩
abbrev cX4_paidBy : ByteArray := prog_6_method_33_code
def yX4_paidBy : MethodName := ⟨RX4, "paidBy", "(II)I"⟩
abbrev cX4_balances : ByteArray := prog_6_method_34_code
def yX4_balances : MethodName := ⟨RX4, "balances", "()I"⟩
abbrev cX4_hour : ByteArray := prog_6_method_35_code
def yX4_hour : MethodName := ⟨RX4, "hour", "()I"⟩
def RJ0 : String := "java/lang/String"
def RL : String := "HearingpayLaw"
abbrev cL_interpreter : ByteArray := method_3_code
def yL_interpreter : MethodName := ⟨RL, "interpreter", "(LHearingpay;III[J)I"⟩
abbrev cL_waive : ByteArray := method_4_code
def yL_waive : MethodName := ⟨RL, "waive", "(LHearingpay;IZ[J)I"⟩
abbrev cL_file : ByteArray := method_5_code
def yL_file : MethodName := ⟨RL, "file", "(LHearingpay;IIII[J)I"⟩
abbrev cL_pay : ByteArray := method_6_code
def yL_pay : MethodName := ⟨RL, "pay", "(LHearingpay;II[J)I"⟩
abbrev cL_decide : ByteArray := method_7_code
def yL_decide : MethodName := ⟨RL, "decide", "(LHearingpay;I[J)I"⟩
abbrev cL_appeal : ByteArray := method_8_code
def yL_appeal : MethodName := ⟨RL, "appeal", "(LHearingpay;I[J)I"⟩
abbrev cL_settle : ByteArray := method_9_code
def yL_settle : MethodName := ⟨RL, "settle", "(LHearingpay;IZ[J)I"⟩
abbrev cL_close : ByteArray := method_10_code
def yL_close : MethodName := ⟨RL, "close", "(LHearingpay;I[J)I"⟩
abbrev cL_plan : ByteArray := method_11_code
def yL_plan : MethodName := ⟨RL, "plan", "(LHearingpay;IIIII[J)I"⟩
abbrev cL_move : ByteArray := method_12_code
def yL_move : MethodName := ⟨RL, "move", "(LHearingpay;IIII[J)I"⟩
abbrev cL_drop : ByteArray := method_13_code
def yL_drop : MethodName := ⟨RL, "drop", "(LHearingpay;I[J)I"⟩
abbrev cL_notice : ByteArray := method_14_code
def yL_notice : MethodName := ⟨RL, "notice", "(LHearingpay;II[J)I"⟩
abbrev cL_pass : ByteArray := method_15_code
def yL_pass : MethodName := ⟨RL, "pass", "(LHearingpay;I[J)I"⟩
abbrev cL_clash : ByteArray := method_16_code
def yL_clash : MethodName := ⟨RL, "clash", "(LHearingpay;IIIII[J)I"⟩
abbrev cL_at : ByteArray := method_17_code
def yL_at : MethodName := ⟨RL, "at", "(LHearingpay;III[J)I"⟩
abbrev cL_about : ByteArray := method_18_code
def yL_about : MethodName := ⟨RL, "about", "(LHearingpay;II[J)I"⟩
abbrev cL_hearing : ByteArray := method_19_code
def yL_hearing : MethodName := ⟨RL, "hearing", "(LHearingpay;II[J)I"⟩
abbrev cL_paidBy : ByteArray := method_20_code
def yL_paidBy : MethodName := ⟨RL, "paidBy", "(LHearingpay;II[J)I"⟩
abbrev cL_law : ByteArray := code
def yL_law : MethodName := ⟨RL, "law", "([I)Z"⟩
abbrev vwCl : List vw_C := [(RX0, TX0, 10), (RX1, TX1, 5), (RX2, TX2, 8), (RX3, TX3, 7), (RX4, TX4, 24)]
def wAll : List Cond := lw_tbl.filter goodWord
theorem wAll_i (i : Nat) {w : Cond} (h : lw_tbl[i]? = some w) (g : goodWord w = true) : w ∈ wAll := List.mem_filter.mpr ⟨List.mem_of_getElem? h, g⟩
theorem wAll_good {w : Cond} (h : w ∈ wAll) : GoodIn wAll [w] := fun w' hw => by
  rw [List.mem_singleton.mp hw]
  exact ⟨h, good_of_word (List.mem_filter.mp h).2⟩
theorem wAll_self : GoodIn wAll wAll := fun w h => ⟨h, good_of_word (List.mem_filter.mp h).2⟩
theorem wAll_tbl {w : Cond} (h : w ∈ wAll) : w ∈ lw_tbl := (List.mem_filter.mp h).1
theorem wAll_sub {ws : List Cond} (h : ∀ w ∈ ws, w ∈ lw_tbl) (g : ∀ w ∈ ws, goodWord w = true) : ∀ w ∈ ws, w ∈ wAll := fun w hw => List.mem_filter.mpr ⟨h w hw, g w hw⟩
def wV (own : String) (index : Nat) (Cn : String) (y : MethodName) (bc : ByteArray) (mxl : Nat) (rt : Option FieldType) : Prop := Cond.methodLink own index y ∈ wAll ∧ Cond.instanceMethod y ∈ wAll ∧ Cond.selects Cn y y ∈ wAll ∧ Cond.initialized Cn ∈ wAll ∧ Cond.code y bc mxl rt ∈ wAll
def wS (own : String) (index : Nat) (y : MethodName) (bc : ByteArray) (mxl : Nat) (rt : Option FieldType) : Prop := Cond.methodLink own index y ∈ wAll ∧ Cond.static y ∈ wAll ∧ Cond.initialized y.cls ∈ wAll ∧ Cond.code y bc mxl rt ∈ wAll
theorem iX0 : ∀ w ∈ u_ws RX0 TX0 10, w ∈ wAll := wAll_sub (by decide +kernel) (by decide +kernel)
theorem iX1 : ∀ w ∈ u_ws RX1 TX1 5, w ∈ wAll := wAll_sub (by decide +kernel) (by decide +kernel)
theorem iX2 : ∀ w ∈ u_ws RX2 TX2 8, w ∈ wAll := wAll_sub (by decide +kernel) (by decide +kernel)
theorem iX3 : ∀ w ∈ u_ws RX3 TX3 7, w ∈ wAll := wAll_sub (by decide +kernel) (by decide +kernel)
theorem iX4 : ∀ w ∈ u_ws RX4 TX4 24, w ∈ wAll := wAll_sub (by decide +kernel) (by decide +kernel)
theorem fl_X1_9 : Cond.fieldLink RX1 9 "Hearingpay$Interpreter" "languages" "I" ∈ wAll := wAll_i 56 (by decide +kernel) (by decide +kernel)
theorem fl_X3_61 : Cond.fieldLink RX3 61 "Hearingpay$Interpreter" "languages" "I" ∈ wAll := wAll_i 57 (by decide +kernel) (by decide +kernel)
theorem fl_X1_15 : Cond.fieldLink RX1 15 "Hearingpay$Interpreter" "price" "I" ∈ wAll := wAll_i 58 (by decide +kernel) (by decide +kernel)
theorem fl_X3_58 : Cond.fieldLink RX3 58 "Hearingpay$Interpreter" "price" "I" ∈ wAll := wAll_i 59 (by decide +kernel) (by decide +kernel)
theorem fl_X1_18 : Cond.fieldLink RX1 18 "Hearingpay$Interpreter" "paidHours" "[I" ∈ wAll := wAll_i 60 (by decide +kernel) (by decide +kernel)
theorem fl_X1_24 : Cond.fieldLink RX1 24 "Hearingpay$Interpreter" "payers" "[LHearingpay$Matter;" ∈ wAll := wAll_i 61 (by decide +kernel) (by decide +kernel)
theorem fl_X1_28 : Cond.fieldLink RX1 28 "Hearingpay$Interpreter" "amounts" "[I" ∈ wAll := wAll_i 62 (by decide +kernel) (by decide +kernel)
theorem fl_X3_11 : Cond.fieldLink RX3 11 "Hearingpay" "interpreters" "[LHearingpay$Interpreter;" ∈ wAll := wAll_i 76 (by decide +kernel) (by decide +kernel)
theorem fl_X3_15 : Cond.fieldLink RX3 15 "Hearingpay" "waived" "[Z" ∈ wAll := wAll_i 77 (by decide +kernel) (by decide +kernel)
theorem fl_X3_21 : Cond.fieldLink RX3 21 "Hearingpay" "matters" "[LHearingpay$Matter;" ∈ wAll := wAll_i 78 (by decide +kernel) (by decide +kernel)
theorem fl_X3_27 : Cond.fieldLink RX3 27 "Hearingpay" "hearings" "[LHearingpay$Hearing;" ∈ wAll := wAll_i 79 (by decide +kernel) (by decide +kernel)
theorem fl_X3_31 : Cond.fieldLink RX3 31 "Hearingpay" "matterCount" "I" ∈ wAll := wAll_i 80 (by decide +kernel) (by decide +kernel)
theorem fl_X3_35 : Cond.fieldLink RX3 35 "Hearingpay" "hearingCount" "I" ∈ wAll := wAll_i 81 (by decide +kernel) (by decide +kernel)
theorem fl_X3_38 : Cond.fieldLink RX3 38 "Hearingpay" "now" "I" ∈ wAll := wAll_i 82 (by decide +kernel) (by decide +kernel)
theorem cv_L_147 : wV RL 147 RX3 yX3_balances cX3_balances 4 (some .int) := ⟨wAll_i 98 (by decide +kernel) (by decide +kernel), wAll_i 99 (by decide +kernel) (by decide +kernel), wAll_i 100 (by decide +kernel) (by decide +kernel), wAll_i 25 (by decide +kernel) (by decide +kernel), wAll_i 101 (by decide +kernel) (by decide +kernel)⟩
theorem cv_X3_95 : wV RX3 95 RX3 yX3_matterAt cX3_matterAt 2 (some (.object "Hearingpay$Matter")) := ⟨wAll_i 102 (by decide +kernel) (by decide +kernel), wAll_i 104 (by decide +kernel) (by decide +kernel), wAll_i 0 (by decide +kernel) (by decide +kernel), wAll_i 25 (by decide +kernel) (by decide +kernel), wAll_i 105 (by decide +kernel) (by decide +kernel)⟩
theorem cv_L_151 : wV RL 151 RX3 yX3_hour cX3_hour 1 (some .int) := ⟨wAll_i 106 (by decide +kernel) (by decide +kernel), wAll_i 107 (by decide +kernel) (by decide +kernel), wAll_i 108 (by decide +kernel) (by decide +kernel), wAll_i 25 (by decide +kernel) (by decide +kernel), wAll_i 109 (by decide +kernel) (by decide +kernel)⟩
theorem cv_L_7 : wV RL 7 RX3 yX3_interpreter cX3_interpreter 6 (some .int) := ⟨wAll_i 115 (by decide +kernel) (by decide +kernel), wAll_i 116 (by decide +kernel) (by decide +kernel), wAll_i 117 (by decide +kernel) (by decide +kernel), wAll_i 25 (by decide +kernel) (by decide +kernel), wAll_i 118 (by decide +kernel) (by decide +kernel)⟩
theorem cv_X3_42 : wV RX3 42 RX3 yX3_interpreterAt cX3_interpreterAt 2 (some (.object "Hearingpay$Interpreter")) := ⟨wAll_i 119 (by decide +kernel) (by decide +kernel), wAll_i 121 (by decide +kernel) (by decide +kernel), wAll_i 1 (by decide +kernel) (by decide +kernel), wAll_i 25 (by decide +kernel) (by decide +kernel), wAll_i 122 (by decide +kernel) (by decide +kernel)⟩
theorem cv_L_17 : wV RL 17 RX3 yX3_waive cX3_waive 4 (some .boolean) := ⟨wAll_i 210 (by decide +kernel) (by decide +kernel), wAll_i 211 (by decide +kernel) (by decide +kernel), wAll_i 212 (by decide +kernel) (by decide +kernel), wAll_i 25 (by decide +kernel) (by decide +kernel), wAll_i 213 (by decide +kernel) (by decide +kernel)⟩
theorem cv_L_21 : wV RL 21 RX3 yX3_file cX3_file 6 (some .int) := ⟨wAll_i 219 (by decide +kernel) (by decide +kernel), wAll_i 220 (by decide +kernel) (by decide +kernel), wAll_i 221 (by decide +kernel) (by decide +kernel), wAll_i 25 (by decide +kernel) (by decide +kernel), wAll_i 222 (by decide +kernel) (by decide +kernel)⟩
theorem cs_X3_66 : wS RX3 66 yX3_isIn cX3_isIn 2 (some .boolean) := ⟨wAll_i 223 (by decide +kernel) (by decide +kernel), wAll_i 224 (by decide +kernel) (by decide +kernel), wAll_i 25 (by decide +kernel) (by decide +kernel), wAll_i 225 (by decide +kernel) (by decide +kernel)⟩
theorem cs_X3_70 : wS RX3 70 yX3_isInOrNone cX3_isInOrNone 2 (some .boolean) := ⟨wAll_i 226 (by decide +kernel) (by decide +kernel), wAll_i 227 (by decide +kernel) (by decide +kernel), wAll_i 25 (by decide +kernel) (by decide +kernel), wAll_i 228 (by decide +kernel) (by decide +kernel)⟩
theorem fl_X2_18 : Cond.fieldLink RX2 18 "Hearingpay$Matter" "number" "I" ∈ wAll := wAll_i 252 (by decide +kernel) (by decide +kernel)
theorem fl_X3_92 : Cond.fieldLink RX3 92 "Hearingpay$Matter" "number" "I" ∈ wAll := wAll_i 253 (by decide +kernel) (by decide +kernel)
theorem fl_X2_21 : Cond.fieldLink RX2 21 "Hearingpay$Matter" "judge" "I" ∈ wAll := wAll_i 254 (by decide +kernel) (by decide +kernel)
theorem fl_X0_45 : Cond.fieldLink RX0 45 "Hearingpay$Matter" "judge" "I" ∈ wAll := wAll_i 255 (by decide +kernel) (by decide +kernel)
theorem fl_X3_224 : Cond.fieldLink RX3 224 "Hearingpay$Matter" "judge" "I" ∈ wAll := wAll_i 256 (by decide +kernel) (by decide +kernel)
theorem fl_X2_24 : Cond.fieldLink RX2 24 "Hearingpay$Matter" "first" "I" ∈ wAll := wAll_i 257 (by decide +kernel) (by decide +kernel)
theorem fl_X0_58 : Cond.fieldLink RX0 58 "Hearingpay$Matter" "first" "I" ∈ wAll := wAll_i 258 (by decide +kernel) (by decide +kernel)
theorem fl_X3_227 : Cond.fieldLink RX3 227 "Hearingpay$Matter" "first" "I" ∈ wAll := wAll_i 259 (by decide +kernel) (by decide +kernel)
theorem fl_X2_27 : Cond.fieldLink RX2 27 "Hearingpay$Matter" "second" "I" ∈ wAll := wAll_i 260 (by decide +kernel) (by decide +kernel)
theorem fl_X0_61 : Cond.fieldLink RX0 61 "Hearingpay$Matter" "second" "I" ∈ wAll := wAll_i 261 (by decide +kernel) (by decide +kernel)
theorem fl_X3_230 : Cond.fieldLink RX3 230 "Hearingpay$Matter" "second" "I" ∈ wAll := wAll_i 262 (by decide +kernel) (by decide +kernel)
theorem fl_X2_30 : Cond.fieldLink RX2 30 "Hearingpay$Matter" "language" "I" ∈ wAll := wAll_i 263 (by decide +kernel) (by decide +kernel)
theorem fl_X3_233 : Cond.fieldLink RX3 233 "Hearingpay$Matter" "language" "I" ∈ wAll := wAll_i 264 (by decide +kernel) (by decide +kernel)
theorem fl_X2_9 : Cond.fieldLink RX2 9 "Hearingpay$Matter" "state" "I" ∈ wAll := wAll_i 265 (by decide +kernel) (by decide +kernel)
theorem fl_X3_103 : Cond.fieldLink RX3 103 "Hearingpay$Matter" "state" "I" ∈ wAll := wAll_i 266 (by decide +kernel) (by decide +kernel)
theorem fl_X0_68 : Cond.fieldLink RX0 68 "Hearingpay$Matter" "state" "I" ∈ wAll := wAll_i 267 (by decide +kernel) (by decide +kernel)
theorem fl_X2_15 : Cond.fieldLink RX2 15 "Hearingpay$Matter" "balance" "I" ∈ wAll := wAll_i 268 (by decide +kernel) (by decide +kernel)
theorem fl_X3_85 : Cond.fieldLink RX3 85 "Hearingpay$Matter" "balance" "I" ∈ wAll := wAll_i 269 (by decide +kernel) (by decide +kernel)
theorem fl_X1_39 : Cond.fieldLink RX1 39 "Hearingpay$Matter" "balance" "I" ∈ wAll := wAll_i 270 (by decide +kernel) (by decide +kernel)
theorem fl_X2_33 : Cond.fieldLink RX2 33 "Hearingpay$Matter" "end" "I" ∈ wAll := wAll_i 271 (by decide +kernel) (by decide +kernel)
theorem fl_X3_116 : Cond.fieldLink RX3 116 "Hearingpay$Matter" "end" "I" ∈ wAll := wAll_i 272 (by decide +kernel) (by decide +kernel)
theorem cv_X3_88 : wV RX3 88 RX3 yX3_feeFor cX3_feeFor 4 (some .int) := ⟨wAll_i 290 (by decide +kernel) (by decide +kernel), wAll_i 292 (by decide +kernel) (by decide +kernel), wAll_i 3 (by decide +kernel) (by decide +kernel), wAll_i 25 (by decide +kernel) (by decide +kernel), wAll_i 293 (by decide +kernel) (by decide +kernel)⟩
theorem cv_L_27 : wV RL 27 RX3 yX3_pay cX3_pay 4 (some .int) := ⟨wAll_i 297 (by decide +kernel) (by decide +kernel), wAll_i 298 (by decide +kernel) (by decide +kernel), wAll_i 299 (by decide +kernel) (by decide +kernel), wAll_i 25 (by decide +kernel) (by decide +kernel), wAll_i 300 (by decide +kernel) (by decide +kernel)⟩
theorem cv_L_31 : wV RL 31 RX3 yX3_decide cX3_decide 3 (some .int) := ⟨wAll_i 306 (by decide +kernel) (by decide +kernel), wAll_i 307 (by decide +kernel) (by decide +kernel), wAll_i 308 (by decide +kernel) (by decide +kernel), wAll_i 25 (by decide +kernel) (by decide +kernel), wAll_i 309 (by decide +kernel) (by decide +kernel)⟩
theorem cv_X3_108 : wV RX3 108 RX3 yX3_dropAllOf cX3_dropAllOf 5 (some .int) := ⟨wAll_i 311 (by decide +kernel) (by decide +kernel), wAll_i 313 (by decide +kernel) (by decide +kernel), wAll_i 4 (by decide +kernel) (by decide +kernel), wAll_i 25 (by decide +kernel) (by decide +kernel), wAll_i 314 (by decide +kernel) (by decide +kernel)⟩
theorem cv_X3_149 : wV RX3 149 RX3 yX3_hearingAt cX3_hearingAt 2 (some (.object "Hearingpay$Hearing")) := ⟨wAll_i 315 (by decide +kernel) (by decide +kernel), wAll_i 317 (by decide +kernel) (by decide +kernel), wAll_i 5 (by decide +kernel) (by decide +kernel), wAll_i 25 (by decide +kernel) (by decide +kernel), wAll_i 318 (by decide +kernel) (by decide +kernel)⟩
theorem cv_X3_157 : wV RX3 157 RX3 yX3_isToBegin cX3_isToBegin 2 (some .boolean) := ⟨wAll_i 319 (by decide +kernel) (by decide +kernel), wAll_i 321 (by decide +kernel) (by decide +kernel), wAll_i 6 (by decide +kernel) (by decide +kernel), wAll_i 25 (by decide +kernel) (by decide +kernel), wAll_i 322 (by decide +kernel) (by decide +kernel)⟩
theorem cv_X3_170 : wV RX3 170 RX3 yX3_leave cX3_leave 4 none := ⟨wAll_i 323 (by decide +kernel) (by decide +kernel), wAll_i 325 (by decide +kernel) (by decide +kernel), wAll_i 7 (by decide +kernel) (by decide +kernel), wAll_i 25 (by decide +kernel) (by decide +kernel), wAll_i 326 (by decide +kernel) (by decide +kernel)⟩
theorem cv_X3_248 : wV RX3 248 RX0 yX0_charged cX0_charged 3 (some .int) := ⟨wAll_i 327 (by decide +kernel) (by decide +kernel), wAll_i 328 (by decide +kernel) (by decide +kernel), wAll_i 329 (by decide +kernel) (by decide +kernel), wAll_i 35 (by decide +kernel) (by decide +kernel), wAll_i 330 (by decide +kernel) (by decide +kernel)⟩
theorem cv_X3_276 : wV RX3 276 RX1 yX1_keep cX1_keep 5 none := ⟨wAll_i 331 (by decide +kernel) (by decide +kernel), wAll_i 332 (by decide +kernel) (by decide +kernel), wAll_i 333 (by decide +kernel) (by decide +kernel), wAll_i 26 (by decide +kernel) (by decide +kernel), wAll_i 334 (by decide +kernel) (by decide +kernel)⟩
theorem cs_X1_31 : wS RX1 31 yX1_placeOf cX1_placeOf 1 (some .int) := ⟨wAll_i 335 (by decide +kernel) (by decide +kernel), wAll_i 336 (by decide +kernel) (by decide +kernel), wAll_i 26 (by decide +kernel) (by decide +kernel), wAll_i 337 (by decide +kernel) (by decide +kernel)⟩
theorem cv_L_35 : wV RL 35 RX3 yX3_appeal cX3_appeal 3 (some .int) := ⟨wAll_i 341 (by decide +kernel) (by decide +kernel), wAll_i 342 (by decide +kernel) (by decide +kernel), wAll_i 343 (by decide +kernel) (by decide +kernel), wAll_i 25 (by decide +kernel) (by decide +kernel), wAll_i 344 (by decide +kernel) (by decide +kernel)⟩
theorem cv_L_38 : wV RL 38 RX3 yX3_settle cX3_settle 4 (some .int) := ⟨wAll_i 349 (by decide +kernel) (by decide +kernel), wAll_i 350 (by decide +kernel) (by decide +kernel), wAll_i 351 (by decide +kernel) (by decide +kernel), wAll_i 25 (by decide +kernel) (by decide +kernel), wAll_i 352 (by decide +kernel) (by decide +kernel)⟩
theorem cv_L_42 : wV RL 42 RX3 yX3_close cX3_close 3 (some .int) := ⟨wAll_i 357 (by decide +kernel) (by decide +kernel), wAll_i 358 (by decide +kernel) (by decide +kernel), wAll_i 359 (by decide +kernel) (by decide +kernel), wAll_i 25 (by decide +kernel) (by decide +kernel), wAll_i 360 (by decide +kernel) (by decide +kernel)⟩
theorem cv_L_45 : wV RL 45 RX3 yX3_plan cX3_plan 8 (some .int) := ⟨wAll_i 365 (by decide +kernel) (by decide +kernel), wAll_i 366 (by decide +kernel) (by decide +kernel), wAll_i 367 (by decide +kernel) (by decide +kernel), wAll_i 25 (by decide +kernel) (by decide +kernel), wAll_i 368 (by decide +kernel) (by decide +kernel)⟩
theorem cv_X3_125 : wV RX3 125 RX2 yX2_isOpen cX2_isOpen 1 (some .boolean) := ⟨wAll_i 371 (by decide +kernel) (by decide +kernel), wAll_i 372 (by decide +kernel) (by decide +kernel), wAll_i 373 (by decide +kernel) (by decide +kernel), wAll_i 34 (by decide +kernel) (by decide +kernel), wAll_i 374 (by decide +kernel) (by decide +kernel)⟩
theorem cv_X3_129 : wV RX3 129 RX3 yX3_isAsNeeded cX3_isAsNeeded 4 (some .boolean) := ⟨wAll_i 375 (by decide +kernel) (by decide +kernel), wAll_i 377 (by decide +kernel) (by decide +kernel), wAll_i 8 (by decide +kernel) (by decide +kernel), wAll_i 25 (by decide +kernel) (by decide +kernel), wAll_i 378 (by decide +kernel) (by decide +kernel)⟩
theorem cv_X3_257 : wV RX3 257 RX1 yX1_knows cX1_knows 2 (some .boolean) := ⟨wAll_i 379 (by decide +kernel) (by decide +kernel), wAll_i 380 (by decide +kernel) (by decide +kernel), wAll_i 381 (by decide +kernel) (by decide +kernel), wAll_i 26 (by decide +kernel) (by decide +kernel), wAll_i 382 (by decide +kernel) (by decide +kernel)⟩
theorem cv_X3_135 : wV RX3 135 RX3 yX3_clashReason cX3_clashReason 11 (some .int) := ⟨wAll_i 384 (by decide +kernel) (by decide +kernel), wAll_i 386 (by decide +kernel) (by decide +kernel), wAll_i 9 (by decide +kernel) (by decide +kernel), wAll_i 25 (by decide +kernel) (by decide +kernel), wAll_i 387 (by decide +kernel) (by decide +kernel)⟩
theorem cv_X3_218 : wV RX3 218 RX0 yX0_takesPartOf cX0_takesPartOf 3 (some .boolean) := ⟨wAll_i 388 (by decide +kernel) (by decide +kernel), wAll_i 389 (by decide +kernel) (by decide +kernel), wAll_i 390 (by decide +kernel) (by decide +kernel), wAll_i 35 (by decide +kernel) (by decide +kernel), wAll_i 391 (by decide +kernel) (by decide +kernel)⟩
theorem cv_X3_260 : wV RX3 260 RX0 yX0_reasonAgainst cX0_reasonAgainst 4 (some .int) := ⟨wAll_i 392 (by decide +kernel) (by decide +kernel), wAll_i 393 (by decide +kernel) (by decide +kernel), wAll_i 394 (by decide +kernel) (by decide +kernel), wAll_i 35 (by decide +kernel) (by decide +kernel), wAll_i 395 (by decide +kernel) (by decide +kernel)⟩
theorem cv_X0_54 : wV RX0 54 RX0 yX0_needs cX0_needs 3 (some .boolean) := ⟨wAll_i 396 (by decide +kernel) (by decide +kernel), wAll_i 397 (by decide +kernel) (by decide +kernel), wAll_i 398 (by decide +kernel) (by decide +kernel), wAll_i 35 (by decide +kernel) (by decide +kernel), wAll_i 399 (by decide +kernel) (by decide +kernel)⟩
theorem cv_X0_50 : wV RX0 50 RX2 yX2_isOf cX2_isOf 2 (some .boolean) := ⟨wAll_i 400 (by decide +kernel) (by decide +kernel), wAll_i 401 (by decide +kernel) (by decide +kernel), wAll_i 402 (by decide +kernel) (by decide +kernel), wAll_i 34 (by decide +kernel) (by decide +kernel), wAll_i 403 (by decide +kernel) (by decide +kernel)⟩
theorem fl_X0_35 : Cond.fieldLink RX0 35 "Hearingpay$Hearing" "number" "I" ∈ wAll := wAll_i 410 (by decide +kernel) (by decide +kernel)
theorem fl_X3_148 : Cond.fieldLink RX3 148 "Hearingpay$Hearing" "number" "I" ∈ wAll := wAll_i 411 (by decide +kernel) (by decide +kernel)
theorem fl_X0_38 : Cond.fieldLink RX0 38 "Hearingpay$Hearing" "matter" "LHearingpay$Matter;" ∈ wAll := wAll_i 412 (by decide +kernel) (by decide +kernel)
theorem fl_X3_161 : Cond.fieldLink RX3 161 "Hearingpay$Hearing" "matter" "LHearingpay$Matter;" ∈ wAll := wAll_i 413 (by decide +kernel) (by decide +kernel)
theorem fl_X0_42 : Cond.fieldLink RX0 42 "Hearingpay$Hearing" "hours" "I" ∈ wAll := wAll_i 414 (by decide +kernel) (by decide +kernel)
theorem fl_X3_167 : Cond.fieldLink RX3 167 "Hearingpay$Hearing" "hours" "I" ∈ wAll := wAll_i 415 (by decide +kernel) (by decide +kernel)
theorem fl_X0_9 : Cond.fieldLink RX0 9 "Hearingpay$Hearing" "charges" "[I" ∈ wAll := wAll_i 416 (by decide +kernel) (by decide +kernel)
theorem fl_X3_268 : Cond.fieldLink RX3 268 "Hearingpay$Hearing" "charges" "[I" ∈ wAll := wAll_i 417 (by decide +kernel) (by decide +kernel)
theorem fl_X0_15 : Cond.fieldLink RX0 15 "Hearingpay$Hearing" "state" "I" ∈ wAll := wAll_i 418 (by decide +kernel) (by decide +kernel)
theorem fl_X3_178 : Cond.fieldLink RX3 178 "Hearingpay$Hearing" "state" "I" ∈ wAll := wAll_i 419 (by decide +kernel) (by decide +kernel)
theorem fl_X0_19 : Cond.fieldLink RX0 19 "Hearingpay$Hearing" "room" "I" ∈ wAll := wAll_i 420 (by decide +kernel) (by decide +kernel)
theorem fl_X3_239 : Cond.fieldLink RX3 239 "Hearingpay$Hearing" "room" "I" ∈ wAll := wAll_i 421 (by decide +kernel) (by decide +kernel)
theorem fl_X0_22 : Cond.fieldLink RX0 22 "Hearingpay$Hearing" "interpreter" "I" ∈ wAll := wAll_i 422 (by decide +kernel) (by decide +kernel)
theorem fl_X3_242 : Cond.fieldLink RX3 242 "Hearingpay$Hearing" "interpreter" "I" ∈ wAll := wAll_i 423 (by decide +kernel) (by decide +kernel)
theorem fl_X0_25 : Cond.fieldLink RX0 25 "Hearingpay$Hearing" "from" "I" ∈ wAll := wAll_i 424 (by decide +kernel) (by decide +kernel)
theorem fl_X3_189 : Cond.fieldLink RX3 189 "Hearingpay$Hearing" "from" "I" ∈ wAll := wAll_i 425 (by decide +kernel) (by decide +kernel)
theorem fl_X0_28 : Cond.fieldLink RX0 28 "Hearingpay$Hearing" "isFirstTold" "Z" ∈ wAll := wAll_i 426 (by decide +kernel) (by decide +kernel)
theorem fl_X0_32 : Cond.fieldLink RX0 32 "Hearingpay$Hearing" "isSecondTold" "Z" ∈ wAll := wAll_i 427 (by decide +kernel) (by decide +kernel)
theorem cv_X3_144 : wV RX3 144 RX3 yX3_put cX3_put 7 none := ⟨wAll_i 449 (by decide +kernel) (by decide +kernel), wAll_i 451 (by decide +kernel) (by decide +kernel), wAll_i 10 (by decide +kernel) (by decide +kernel), wAll_i 25 (by decide +kernel) (by decide +kernel), wAll_i 452 (by decide +kernel) (by decide +kernel)⟩
theorem cv_X3_264 : wV RX3 264 RX0 yX0_settleAt cX0_settleAt 4 none := ⟨wAll_i 453 (by decide +kernel) (by decide +kernel), wAll_i 454 (by decide +kernel) (by decide +kernel), wAll_i 455 (by decide +kernel) (by decide +kernel), wAll_i 35 (by decide +kernel) (by decide +kernel), wAll_i 456 (by decide +kernel) (by decide +kernel)⟩
theorem cv_X3_272 : wV RX3 272 RX1 yX1_take cX1_take 7 (some .int) := ⟨wAll_i 457 (by decide +kernel) (by decide +kernel), wAll_i 458 (by decide +kernel) (by decide +kernel), wAll_i 459 (by decide +kernel) (by decide +kernel), wAll_i 26 (by decide +kernel) (by decide +kernel), wAll_i 460 (by decide +kernel) (by decide +kernel)⟩
theorem cv_X1_35 : wV RX1 35 RX1 yX1_payer cX1_payer 4 (some (.object "Hearingpay$Matter")) := ⟨wAll_i 461 (by decide +kernel) (by decide +kernel), wAll_i 462 (by decide +kernel) (by decide +kernel), wAll_i 463 (by decide +kernel) (by decide +kernel), wAll_i 26 (by decide +kernel) (by decide +kernel), wAll_i 464 (by decide +kernel) (by decide +kernel)⟩
theorem cv_L_49 : wV RL 49 RX3 yX3_move cX3_move 6 (some .int) := ⟨wAll_i 468 (by decide +kernel) (by decide +kernel), wAll_i 469 (by decide +kernel) (by decide +kernel), wAll_i 470 (by decide +kernel) (by decide +kernel), wAll_i 25 (by decide +kernel) (by decide +kernel), wAll_i 471 (by decide +kernel) (by decide +kernel)⟩
theorem cv_L_52 : wV RL 52 RX3 yX3_drop cX3_drop 3 (some .int) := ⟨wAll_i 478 (by decide +kernel) (by decide +kernel), wAll_i 479 (by decide +kernel) (by decide +kernel), wAll_i 480 (by decide +kernel) (by decide +kernel), wAll_i 25 (by decide +kernel) (by decide +kernel), wAll_i 481 (by decide +kernel) (by decide +kernel)⟩
theorem cv_L_55 : wV RL 55 RX3 yX3_notice cX3_notice 5 (some .boolean) := ⟨wAll_i 487 (by decide +kernel) (by decide +kernel), wAll_i 488 (by decide +kernel) (by decide +kernel), wAll_i 489 (by decide +kernel) (by decide +kernel), wAll_i 25 (by decide +kernel) (by decide +kernel), wAll_i 490 (by decide +kernel) (by decide +kernel)⟩
theorem cv_X3_181 : wV RX3 181 RX2 yX2_isOf cX2_isOf 2 (some .boolean) := ⟨wAll_i 492 (by decide +kernel) (by decide +kernel), wAll_i 401 (by decide +kernel) (by decide +kernel), wAll_i 402 (by decide +kernel) (by decide +kernel), wAll_i 34 (by decide +kernel) (by decide +kernel), wAll_i 403 (by decide +kernel) (by decide +kernel)⟩
theorem cv_X3_192 : wV RX3 192 RX0 yX0_tell cX0_tell 2 none := ⟨wAll_i 495 (by decide +kernel) (by decide +kernel), wAll_i 496 (by decide +kernel) (by decide +kernel), wAll_i 497 (by decide +kernel) (by decide +kernel), wAll_i 35 (by decide +kernel) (by decide +kernel), wAll_i 498 (by decide +kernel) (by decide +kernel)⟩
theorem cv_L_59 : wV RL 59 RX3 yX3_pass cX3_pass 4 (some .int) := ⟨wAll_i 502 (by decide +kernel) (by decide +kernel), wAll_i 503 (by decide +kernel) (by decide +kernel), wAll_i 504 (by decide +kernel) (by decide +kernel), wAll_i 25 (by decide +kernel) (by decide +kernel), wAll_i 505 (by decide +kernel) (by decide +kernel)⟩
theorem cv_X3_200 : wV RX3 200 RX3 yX3_endHearings cX3_endHearings 4 (some .int) := ⟨wAll_i 508 (by decide +kernel) (by decide +kernel), wAll_i 510 (by decide +kernel) (by decide +kernel), wAll_i 11 (by decide +kernel) (by decide +kernel), wAll_i 25 (by decide +kernel) (by decide +kernel), wAll_i 511 (by decide +kernel) (by decide +kernel)⟩
theorem cv_X3_279 : wV RX3 279 RX0 yX0_end cX0_end 1 none := ⟨wAll_i 512 (by decide +kernel) (by decide +kernel), wAll_i 513 (by decide +kernel) (by decide +kernel), wAll_i 514 (by decide +kernel) (by decide +kernel), wAll_i 35 (by decide +kernel) (by decide +kernel), wAll_i 515 (by decide +kernel) (by decide +kernel)⟩
theorem cv_X0_64 : wV RX0 64 RX2 yX2_isOpen cX2_isOpen 1 (some .boolean) := ⟨wAll_i 516 (by decide +kernel) (by decide +kernel), wAll_i 372 (by decide +kernel) (by decide +kernel), wAll_i 373 (by decide +kernel) (by decide +kernel), wAll_i 34 (by decide +kernel) (by decide +kernel), wAll_i 374 (by decide +kernel) (by decide +kernel)⟩
theorem cv_X3_204 : wV RX3 204 RX3 yX3_runTerms cX3_runTerms 3 none := ⟨wAll_i 517 (by decide +kernel) (by decide +kernel), wAll_i 519 (by decide +kernel) (by decide +kernel), wAll_i 12 (by decide +kernel) (by decide +kernel), wAll_i 25 (by decide +kernel) (by decide +kernel), wAll_i 520 (by decide +kernel) (by decide +kernel)⟩
theorem cv_X3_281 : wV RX3 281 RX2 yX2_runTerm cX2_runTerm 2 none := ⟨wAll_i 521 (by decide +kernel) (by decide +kernel), wAll_i 522 (by decide +kernel) (by decide +kernel), wAll_i 523 (by decide +kernel) (by decide +kernel), wAll_i 34 (by decide +kernel) (by decide +kernel), wAll_i 524 (by decide +kernel) (by decide +kernel)⟩
theorem cv_X2_36 : wV RX2 36 RX2 yX2_isOpen cX2_isOpen 1 (some .boolean) := ⟨wAll_i 525 (by decide +kernel) (by decide +kernel), wAll_i 372 (by decide +kernel) (by decide +kernel), wAll_i 373 (by decide +kernel) (by decide +kernel), wAll_i 34 (by decide +kernel) (by decide +kernel), wAll_i 374 (by decide +kernel) (by decide +kernel)⟩
theorem cv_L_62 : wV RL 62 RX3 yX3_clash cX3_clash 7 (some .int) := ⟨wAll_i 529 (by decide +kernel) (by decide +kernel), wAll_i 530 (by decide +kernel) (by decide +kernel), wAll_i 531 (by decide +kernel) (by decide +kernel), wAll_i 25 (by decide +kernel) (by decide +kernel), wAll_i 532 (by decide +kernel) (by decide +kernel)⟩
theorem cv_L_65 : wV RL 65 RX3 yX3_at cX3_at 6 (some .int) := ⟨wAll_i 536 (by decide +kernel) (by decide +kernel), wAll_i 537 (by decide +kernel) (by decide +kernel), wAll_i 538 (by decide +kernel) (by decide +kernel), wAll_i 25 (by decide +kernel) (by decide +kernel), wAll_i 539 (by decide +kernel) (by decide +kernel)⟩
theorem cs_X3_209 : wS RX3 209 yX3_howMany cX3_howMany 1 (some .int) := ⟨wAll_i 541 (by decide +kernel) (by decide +kernel), wAll_i 542 (by decide +kernel) (by decide +kernel), wAll_i 25 (by decide +kernel) (by decide +kernel), wAll_i 543 (by decide +kernel) (by decide +kernel)⟩
theorem cs_X3_213 : wS RX3 213 yX3_isCalendarHour cX3_isCalendarHour 1 (some .boolean) := ⟨wAll_i 544 (by decide +kernel) (by decide +kernel), wAll_i 545 (by decide +kernel) (by decide +kernel), wAll_i 25 (by decide +kernel) (by decide +kernel), wAll_i 546 (by decide +kernel) (by decide +kernel)⟩
theorem cv_X3_221 : wV RX3 221 RX0 yX0_needs cX0_needs 3 (some .boolean) := ⟨wAll_i 548 (by decide +kernel) (by decide +kernel), wAll_i 397 (by decide +kernel) (by decide +kernel), wAll_i 398 (by decide +kernel) (by decide +kernel), wAll_i 35 (by decide +kernel) (by decide +kernel), wAll_i 399 (by decide +kernel) (by decide +kernel)⟩
theorem cv_L_68 : wV RL 68 RX3 yX3_about cX3_about 4 (some .int) := ⟨wAll_i 552 (by decide +kernel) (by decide +kernel), wAll_i 553 (by decide +kernel) (by decide +kernel), wAll_i 554 (by decide +kernel) (by decide +kernel), wAll_i 25 (by decide +kernel) (by decide +kernel), wAll_i 555 (by decide +kernel) (by decide +kernel)⟩
theorem cv_X3_236 : wV RX3 236 RX3 yX3_paidHoursOf cX3_paidHoursOf 5 (some .int) := ⟨wAll_i 556 (by decide +kernel) (by decide +kernel), wAll_i 558 (by decide +kernel) (by decide +kernel), wAll_i 13 (by decide +kernel) (by decide +kernel), wAll_i 25 (by decide +kernel) (by decide +kernel), wAll_i 559 (by decide +kernel) (by decide +kernel)⟩
theorem cv_X3_284 : wV RX3 284 RX1 yX1_hoursPaidBy cX1_hoursPaidBy 5 (some .int) := ⟨wAll_i 560 (by decide +kernel) (by decide +kernel), wAll_i 561 (by decide +kernel) (by decide +kernel), wAll_i 562 (by decide +kernel) (by decide +kernel), wAll_i 26 (by decide +kernel) (by decide +kernel), wAll_i 563 (by decide +kernel) (by decide +kernel)⟩
theorem cv_L_71 : wV RL 71 RX3 yX3_hearing cX3_hearing 4 (some .int) := ⟨wAll_i 567 (by decide +kernel) (by decide +kernel), wAll_i 568 (by decide +kernel) (by decide +kernel), wAll_i 569 (by decide +kernel) (by decide +kernel), wAll_i 25 (by decide +kernel) (by decide +kernel), wAll_i 570 (by decide +kernel) (by decide +kernel)⟩
theorem cv_X3_245 : wV RX3 245 RX0 yX0_notices cX0_notices 1 (some .int) := ⟨wAll_i 571 (by decide +kernel) (by decide +kernel), wAll_i 572 (by decide +kernel) (by decide +kernel), wAll_i 573 (by decide +kernel) (by decide +kernel), wAll_i 35 (by decide +kernel) (by decide +kernel), wAll_i 574 (by decide +kernel) (by decide +kernel)⟩
theorem cv_L_74 : wV RL 74 RX3 yX3_paidBy cX3_paidBy 5 (some .int) := ⟨wAll_i 578 (by decide +kernel) (by decide +kernel), wAll_i 579 (by decide +kernel) (by decide +kernel), wAll_i 580 (by decide +kernel) (by decide +kernel), wAll_i 25 (by decide +kernel) (by decide +kernel), wAll_i 581 (by decide +kernel) (by decide +kernel)⟩
theorem cv_X3_253 : wV RX3 253 RX1 yX1_payer cX1_payer 4 (some (.object "Hearingpay$Matter")) := ⟨wAll_i 583 (by decide +kernel) (by decide +kernel), wAll_i 462 (by decide +kernel) (by decide +kernel), wAll_i 463 (by decide +kernel) (by decide +kernel), wAll_i 26 (by decide +kernel) (by decide +kernel), wAll_i 464 (by decide +kernel) (by decide +kernel)⟩
theorem fl_X4_71 : Cond.fieldLink RX4 71 "HearingpayModel" "thrown" "I" ∈ wAll := wAll_i 590 (by decide +kernel) (by decide +kernel)
theorem fl_X4_85 : Cond.fieldLink RX4 85 "HearingpayModel" "now" "I" ∈ wAll := wAll_i 591 (by decide +kernel) (by decide +kernel)
theorem fl_X4_7 : Cond.fieldLink RX4 7 "HearingpayModel" "languages" "[I" ∈ wAll := wAll_i 592 (by decide +kernel) (by decide +kernel)
theorem fl_X4_13 : Cond.fieldLink RX4 13 "HearingpayModel" "price" "[I" ∈ wAll := wAll_i 593 (by decide +kernel) (by decide +kernel)
theorem fl_X4_16 : Cond.fieldLink RX4 16 "HearingpayModel" "isWaived" "[Z" ∈ wAll := wAll_i 594 (by decide +kernel) (by decide +kernel)
theorem fl_X4_75 : Cond.fieldLink RX4 75 "HearingpayModel" "matters" "I" ∈ wAll := wAll_i 595 (by decide +kernel) (by decide +kernel)
theorem fl_X4_20 : Cond.fieldLink RX4 20 "HearingpayModel" "state" "[I" ∈ wAll := wAll_i 596 (by decide +kernel) (by decide +kernel)
theorem fl_X4_23 : Cond.fieldLink RX4 23 "HearingpayModel" "judge" "[I" ∈ wAll := wAll_i 597 (by decide +kernel) (by decide +kernel)
theorem fl_X4_26 : Cond.fieldLink RX4 26 "HearingpayModel" "first" "[I" ∈ wAll := wAll_i 598 (by decide +kernel) (by decide +kernel)
theorem fl_X4_29 : Cond.fieldLink RX4 29 "HearingpayModel" "second" "[I" ∈ wAll := wAll_i 599 (by decide +kernel) (by decide +kernel)
theorem fl_X4_32 : Cond.fieldLink RX4 32 "HearingpayModel" "language" "[I" ∈ wAll := wAll_i 600 (by decide +kernel) (by decide +kernel)
theorem fl_X4_35 : Cond.fieldLink RX4 35 "HearingpayModel" "balance" "[I" ∈ wAll := wAll_i 601 (by decide +kernel) (by decide +kernel)
theorem fl_X4_38 : Cond.fieldLink RX4 38 "HearingpayModel" "end" "[I" ∈ wAll := wAll_i 602 (by decide +kernel) (by decide +kernel)
theorem fl_X4_82 : Cond.fieldLink RX4 82 "HearingpayModel" "hearings" "I" ∈ wAll := wAll_i 603 (by decide +kernel) (by decide +kernel)
theorem fl_X4_41 : Cond.fieldLink RX4 41 "HearingpayModel" "how" "[I" ∈ wAll := wAll_i 604 (by decide +kernel) (by decide +kernel)
theorem fl_X4_44 : Cond.fieldLink RX4 44 "HearingpayModel" "matter" "[I" ∈ wAll := wAll_i 605 (by decide +kernel) (by decide +kernel)
theorem fl_X4_47 : Cond.fieldLink RX4 47 "HearingpayModel" "room" "[I" ∈ wAll := wAll_i 606 (by decide +kernel) (by decide +kernel)
theorem fl_X4_50 : Cond.fieldLink RX4 50 "HearingpayModel" "speaker" "[I" ∈ wAll := wAll_i 607 (by decide +kernel) (by decide +kernel)
theorem fl_X4_53 : Cond.fieldLink RX4 53 "HearingpayModel" "from" "[I" ∈ wAll := wAll_i 608 (by decide +kernel) (by decide +kernel)
theorem fl_X4_56 : Cond.fieldLink RX4 56 "HearingpayModel" "hours" "[I" ∈ wAll := wAll_i 609 (by decide +kernel) (by decide +kernel)
theorem fl_X4_59 : Cond.fieldLink RX4 59 "HearingpayModel" "notices" "[I" ∈ wAll := wAll_i 610 (by decide +kernel) (by decide +kernel)
theorem fl_X4_62 : Cond.fieldLink RX4 62 "HearingpayModel" "charged" "[I" ∈ wAll := wAll_i 611 (by decide +kernel) (by decide +kernel)
theorem fl_X4_65 : Cond.fieldLink RX4 65 "HearingpayModel" "payer" "[I" ∈ wAll := wAll_i 612 (by decide +kernel) (by decide +kernel)
theorem fl_X4_68 : Cond.fieldLink RX4 68 "HearingpayModel" "paid" "[I" ∈ wAll := wAll_i 613 (by decide +kernel) (by decide +kernel)
theorem cv_L_87 : wV RL 87 RX4 yX4_thrown cX4_thrown 1 (some .int) := ⟨wAll_i 663 (by decide +kernel) (by decide +kernel), wAll_i 664 (by decide +kernel) (by decide +kernel), wAll_i 665 (by decide +kernel) (by decide +kernel), wAll_i 27 (by decide +kernel) (by decide +kernel), wAll_i 666 (by decide +kernel) (by decide +kernel)⟩
theorem cv_L_86 : wV RL 86 RX4 yX4_interpreter cX4_interpreter 5 (some .int) := ⟨wAll_i 667 (by decide +kernel) (by decide +kernel), wAll_i 668 (by decide +kernel) (by decide +kernel), wAll_i 669 (by decide +kernel) (by decide +kernel), wAll_i 27 (by decide +kernel) (by decide +kernel), wAll_i 670 (by decide +kernel) (by decide +kernel)⟩
theorem cs_X4_78 : wS RX4 78 yX4_in cX4_in 3 (some .boolean) := ⟨wAll_i 671 (by decide +kernel) (by decide +kernel), wAll_i 672 (by decide +kernel) (by decide +kernel), wAll_i 27 (by decide +kernel) (by decide +kernel), wAll_i 673 (by decide +kernel) (by decide +kernel)⟩
theorem cv_L_94 : wV RL 94 RX4 yX4_waive cX4_waive 4 (some .boolean) := ⟨wAll_i 674 (by decide +kernel) (by decide +kernel), wAll_i 675 (by decide +kernel) (by decide +kernel), wAll_i 676 (by decide +kernel) (by decide +kernel), wAll_i 27 (by decide +kernel) (by decide +kernel), wAll_i 677 (by decide +kernel) (by decide +kernel)⟩
theorem cv_L_98 : wV RL 98 RX4 yX4_file cX4_file 6 (some .int) := ⟨wAll_i 678 (by decide +kernel) (by decide +kernel), wAll_i 679 (by decide +kernel) (by decide +kernel), wAll_i 680 (by decide +kernel) (by decide +kernel), wAll_i 27 (by decide +kernel) (by decide +kernel), wAll_i 681 (by decide +kernel) (by decide +kernel)⟩
theorem cv_L_102 : wV RL 102 RX4 yX4_pay cX4_pay 3 (some .int) := ⟨wAll_i 682 (by decide +kernel) (by decide +kernel), wAll_i 683 (by decide +kernel) (by decide +kernel), wAll_i 684 (by decide +kernel) (by decide +kernel), wAll_i 27 (by decide +kernel) (by decide +kernel), wAll_i 685 (by decide +kernel) (by decide +kernel)⟩
theorem cv_X4_88 : wV RX4 88 RX4 yX4_isMatter cX4_isMatter 2 (some .boolean) := ⟨wAll_i 686 (by decide +kernel) (by decide +kernel), wAll_i 688 (by decide +kernel) (by decide +kernel), wAll_i 14 (by decide +kernel) (by decide +kernel), wAll_i 27 (by decide +kernel) (by decide +kernel), wAll_i 689 (by decide +kernel) (by decide +kernel)⟩
theorem cv_L_106 : wV RL 106 RX4 yX4_decide cX4_decide 4 (some .int) := ⟨wAll_i 690 (by decide +kernel) (by decide +kernel), wAll_i 691 (by decide +kernel) (by decide +kernel), wAll_i 692 (by decide +kernel) (by decide +kernel), wAll_i 27 (by decide +kernel) (by decide +kernel), wAll_i 693 (by decide +kernel) (by decide +kernel)⟩
theorem cv_X4_92 : wV RX4 92 RX4 yX4_leaves cX4_leaves 5 none := ⟨wAll_i 694 (by decide +kernel) (by decide +kernel), wAll_i 696 (by decide +kernel) (by decide +kernel), wAll_i 15 (by decide +kernel) (by decide +kernel), wAll_i 27 (by decide +kernel) (by decide +kernel), wAll_i 697 (by decide +kernel) (by decide +kernel)⟩
theorem cv_L_109 : wV RL 109 RX4 yX4_appeal cX4_appeal 2 (some .int) := ⟨wAll_i 698 (by decide +kernel) (by decide +kernel), wAll_i 699 (by decide +kernel) (by decide +kernel), wAll_i 700 (by decide +kernel) (by decide +kernel), wAll_i 27 (by decide +kernel) (by decide +kernel), wAll_i 701 (by decide +kernel) (by decide +kernel)⟩
theorem cv_L_112 : wV RL 112 RX4 yX4_settle cX4_settle 3 (some .int) := ⟨wAll_i 702 (by decide +kernel) (by decide +kernel), wAll_i 703 (by decide +kernel) (by decide +kernel), wAll_i 704 (by decide +kernel) (by decide +kernel), wAll_i 27 (by decide +kernel) (by decide +kernel), wAll_i 705 (by decide +kernel) (by decide +kernel)⟩
theorem cv_L_115 : wV RL 115 RX4 yX4_close cX4_close 2 (some .int) := ⟨wAll_i 706 (by decide +kernel) (by decide +kernel), wAll_i 707 (by decide +kernel) (by decide +kernel), wAll_i 708 (by decide +kernel) (by decide +kernel), wAll_i 27 (by decide +kernel) (by decide +kernel), wAll_i 709 (by decide +kernel) (by decide +kernel)⟩
theorem cv_L_119 : wV RL 119 RX4 yX4_plan cX4_plan 7 (some .int) := ⟨wAll_i 710 (by decide +kernel) (by decide +kernel), wAll_i 711 (by decide +kernel) (by decide +kernel), wAll_i 712 (by decide +kernel) (by decide +kernel), wAll_i 27 (by decide +kernel) (by decide +kernel), wAll_i 713 (by decide +kernel) (by decide +kernel)⟩
theorem cs_X4_104 : wS RX4 104 yX4_isSpeaker cX4_isSpeaker 1 (some .boolean) := ⟨wAll_i 714 (by decide +kernel) (by decide +kernel), wAll_i 715 (by decide +kernel) (by decide +kernel), wAll_i 27 (by decide +kernel) (by decide +kernel), wAll_i 716 (by decide +kernel) (by decide +kernel)⟩
theorem cv_X4_107 : wV RX4 107 RX4 yX4_isOpen cX4_isOpen 2 (some .boolean) := ⟨wAll_i 717 (by decide +kernel) (by decide +kernel), wAll_i 719 (by decide +kernel) (by decide +kernel), wAll_i 16 (by decide +kernel) (by decide +kernel), wAll_i 27 (by decide +kernel) (by decide +kernel), wAll_i 720 (by decide +kernel) (by decide +kernel)⟩
theorem cv_X4_110 : wV RX4 110 RX4 yX4_fits cX4_fits 3 (some .boolean) := ⟨wAll_i 721 (by decide +kernel) (by decide +kernel), wAll_i 723 (by decide +kernel) (by decide +kernel), wAll_i 17 (by decide +kernel) (by decide +kernel), wAll_i 27 (by decide +kernel) (by decide +kernel), wAll_i 724 (by decide +kernel) (by decide +kernel)⟩
theorem cv_X4_114 : wV RX4 114 RX4 yX4_reason cX4_reason 8 (some .int) := ⟨wAll_i 725 (by decide +kernel) (by decide +kernel), wAll_i 727 (by decide +kernel) (by decide +kernel), wAll_i 18 (by decide +kernel) (by decide +kernel), wAll_i 27 (by decide +kernel) (by decide +kernel), wAll_i 728 (by decide +kernel) (by decide +kernel)⟩
theorem cv_X4_100 : wV RX4 100 RX4 yX4_clashes cX4_clashes 12 (some .boolean) := ⟨wAll_i 729 (by decide +kernel) (by decide +kernel), wAll_i 731 (by decide +kernel) (by decide +kernel), wAll_i 19 (by decide +kernel) (by decide +kernel), wAll_i 27 (by decide +kernel) (by decide +kernel), wAll_i 732 (by decide +kernel) (by decide +kernel)⟩
theorem cs_X4_96 : wS RX4 96 yX4_meets cX4_meets 4 (some .boolean) := ⟨wAll_i 733 (by decide +kernel) (by decide +kernel), wAll_i 734 (by decide +kernel) (by decide +kernel), wAll_i 27 (by decide +kernel) (by decide +kernel), wAll_i 735 (by decide +kernel) (by decide +kernel)⟩
theorem cv_X4_118 : wV RX4 118 RX4 yX4_comes cX4_comes 7 none := ⟨wAll_i 736 (by decide +kernel) (by decide +kernel), wAll_i 738 (by decide +kernel) (by decide +kernel), wAll_i 20 (by decide +kernel) (by decide +kernel), wAll_i 27 (by decide +kernel) (by decide +kernel), wAll_i 739 (by decide +kernel) (by decide +kernel)⟩
theorem cv_L_122 : wV RL 122 RX4 yX4_move cX4_move 6 (some .int) := ⟨wAll_i 740 (by decide +kernel) (by decide +kernel), wAll_i 741 (by decide +kernel) (by decide +kernel), wAll_i 742 (by decide +kernel) (by decide +kernel), wAll_i 27 (by decide +kernel) (by decide +kernel), wAll_i 743 (by decide +kernel) (by decide +kernel)⟩
theorem cv_X4_121 : wV RX4 121 RX4 yX4_isHearing cX4_isHearing 2 (some .boolean) := ⟨wAll_i 744 (by decide +kernel) (by decide +kernel), wAll_i 746 (by decide +kernel) (by decide +kernel), wAll_i 21 (by decide +kernel) (by decide +kernel), wAll_i 27 (by decide +kernel) (by decide +kernel), wAll_i 747 (by decide +kernel) (by decide +kernel)⟩
theorem cv_L_125 : wV RL 125 RX4 yX4_drop cX4_drop 2 (some .int) := ⟨wAll_i 748 (by decide +kernel) (by decide +kernel), wAll_i 749 (by decide +kernel) (by decide +kernel), wAll_i 750 (by decide +kernel) (by decide +kernel), wAll_i 27 (by decide +kernel) (by decide +kernel), wAll_i 751 (by decide +kernel) (by decide +kernel)⟩
theorem cv_L_128 : wV RL 128 RX4 yX4_notice cX4_notice 5 (some .boolean) := ⟨wAll_i 752 (by decide +kernel) (by decide +kernel), wAll_i 753 (by decide +kernel) (by decide +kernel), wAll_i 754 (by decide +kernel) (by decide +kernel), wAll_i 27 (by decide +kernel) (by decide +kernel), wAll_i 755 (by decide +kernel) (by decide +kernel)⟩
theorem cv_L_131 : wV RL 131 RX4 yX4_pass cX4_pass 4 (some .int) := ⟨wAll_i 756 (by decide +kernel) (by decide +kernel), wAll_i 757 (by decide +kernel) (by decide +kernel), wAll_i 758 (by decide +kernel) (by decide +kernel), wAll_i 27 (by decide +kernel) (by decide +kernel), wAll_i 759 (by decide +kernel) (by decide +kernel)⟩
theorem cv_X4_124 : wV RX4 124 RX4 yX4_ends cX4_ends 4 (some .int) := ⟨wAll_i 760 (by decide +kernel) (by decide +kernel), wAll_i 762 (by decide +kernel) (by decide +kernel), wAll_i 22 (by decide +kernel) (by decide +kernel), wAll_i 27 (by decide +kernel) (by decide +kernel), wAll_i 763 (by decide +kernel) (by decide +kernel)⟩
theorem cv_L_134 : wV RL 134 RX4 yX4_clash cX4_clash 6 (some .int) := ⟨wAll_i 764 (by decide +kernel) (by decide +kernel), wAll_i 765 (by decide +kernel) (by decide +kernel), wAll_i 766 (by decide +kernel) (by decide +kernel), wAll_i 27 (by decide +kernel) (by decide +kernel), wAll_i 767 (by decide +kernel) (by decide +kernel)⟩
theorem cv_L_137 : wV RL 137 RX4 yX4_at cX4_at 8 (some .int) := ⟨wAll_i 768 (by decide +kernel) (by decide +kernel), wAll_i 769 (by decide +kernel) (by decide +kernel), wAll_i 770 (by decide +kernel) (by decide +kernel), wAll_i 27 (by decide +kernel) (by decide +kernel), wAll_i 771 (by decide +kernel) (by decide +kernel)⟩
theorem cv_L_140 : wV RL 140 RX4 yX4_about cX4_about 3 (some .int) := ⟨wAll_i 772 (by decide +kernel) (by decide +kernel), wAll_i 773 (by decide +kernel) (by decide +kernel), wAll_i 774 (by decide +kernel) (by decide +kernel), wAll_i 27 (by decide +kernel) (by decide +kernel), wAll_i 775 (by decide +kernel) (by decide +kernel)⟩
theorem cv_X4_128 : wV RX4 128 RX4 yX4_toCome cX4_toCome 5 (some .int) := ⟨wAll_i 776 (by decide +kernel) (by decide +kernel), wAll_i 778 (by decide +kernel) (by decide +kernel), wAll_i 23 (by decide +kernel) (by decide +kernel), wAll_i 27 (by decide +kernel) (by decide +kernel), wAll_i 779 (by decide +kernel) (by decide +kernel)⟩
theorem cv_L_143 : wV RL 143 RX4 yX4_hearing cX4_hearing 3 (some .int) := ⟨wAll_i 780 (by decide +kernel) (by decide +kernel), wAll_i 781 (by decide +kernel) (by decide +kernel), wAll_i 782 (by decide +kernel) (by decide +kernel), wAll_i 27 (by decide +kernel) (by decide +kernel), wAll_i 783 (by decide +kernel) (by decide +kernel)⟩
theorem cv_L_146 : wV RL 146 RX4 yX4_paidBy cX4_paidBy 3 (some .int) := ⟨wAll_i 784 (by decide +kernel) (by decide +kernel), wAll_i 785 (by decide +kernel) (by decide +kernel), wAll_i 786 (by decide +kernel) (by decide +kernel), wAll_i 27 (by decide +kernel) (by decide +kernel), wAll_i 787 (by decide +kernel) (by decide +kernel)⟩
theorem cv_L_150 : wV RL 150 RX4 yX4_balances cX4_balances 3 (some .int) := ⟨wAll_i 788 (by decide +kernel) (by decide +kernel), wAll_i 789 (by decide +kernel) (by decide +kernel), wAll_i 790 (by decide +kernel) (by decide +kernel), wAll_i 27 (by decide +kernel) (by decide +kernel), wAll_i 791 (by decide +kernel) (by decide +kernel)⟩
theorem cv_L_154 : wV RL 154 RX4 yX4_hour cX4_hour 1 (some .int) := ⟨wAll_i 792 (by decide +kernel) (by decide +kernel), wAll_i 793 (by decide +kernel) (by decide +kernel), wAll_i 794 (by decide +kernel) (by decide +kernel), wAll_i 27 (by decide +kernel) (by decide +kernel), wAll_i 795 (by decide +kernel) (by decide +kernel)⟩
end
section
section WBase
abbrev wI : Type := Nat → Nat → Nat → Int32
abbrev wP : Type := Nat → Nat → Nat → Option Nat
abbrev wO : Type := Nat → Int64
/-- where things lie: numbers and slots of the kinds, the rows' kinds, the addresses -/
abbrev wG : Type := va_G × (Nat → ClassId) × (Nat → Nat → Nat)
abbrev wZ : Type := Nat × Nat
def wTy (g : wG) : List (ClassId × FieldType) := [(g.2.1 0, .int), (g.2.1 1, .boolean), (g.2.1 2, .object RX2), (g.2.1 3, .object RX0), (g.2.1 4, .object RX1), (g.2.1 5, .long)]
def wML (i : Nat) : Nat := [0, 0, 4, 4, 6, 0, 12, 12, 12, 12, 12, 12, 12, 0, 24, 24, 24, 24, 24, 24, 24, 96, 4016, 4016].getD i 0
def wAl (z : wZ) (k i : Nat) : Prop := match k with
  | 0 => i = 0
  | 1 => i < 4
  | 2 => i < z.1
  | 3 => i < z.2
  | 4 => i = 0
  | 5 => i = 0
  | 6 => i = 0
  | 7 => i = 0
  | 8 => i < 4
  | 9 => i < 4
  | 10 => i < 4
  | 11 => i < z.2
  | 12 => i = 0
  | 13 => 0 < wML i
  | 14 => i = 0
  | _ => False
def wE (g : wG) (f : Nat → Int32) (q : Nat → Option Nat) (O : wO) (k i : Nat) : va_E := match k with
  | 0 => .inr (3, [.ref (g.2.2 4 0), .ref (g.2.2 5 0), .ref (g.2.2 6 0), .ref (g.2.2 7 0), .int (f 4), .int (f 5), .int (f 6)])
  | 1 => .inr (1, [.int (f 0), .int (f 1), .ref (g.2.2 8 i), .ref (g.2.2 9 i), .ref (g.2.2 10 i)])
  | 2 => .inr (2, [.int (f 0), .int (f 1), .int (f 2), .int (f 3), .int (f 4), .int (f 5), .int (f 6), .int (f 7)])
  | 3 => .inr (0, [.int (f 0), va_rf ((q 1).map (g.2.2 2)), .int (f 2), .ref (g.2.2 11 i), .int (f 4), .int (f 5), .int (f 6), .int (f 7), .int (f 8), .int (f 9)])
  | 4 => .inl (g.2.1 4, 4, .inr (.inr (.inr (.inr (fun j => (q j).map (g.2.2 1))))))
  | 5 => .inl (g.2.1 1, 6, .inl f)
  | 6 => .inl (g.2.1 2, 12, .inr (.inr (.inr (.inr (fun j => (q j).map (g.2.2 2))))))
  | 7 => .inl (g.2.1 3, 24, .inr (.inr (.inr (.inr (fun j => (q j).map (g.2.2 3))))))
  | 8 => .inl (g.2.1 0, 16, .inl f)
  | 9 => .inl (g.2.1 2, 16, .inr (.inr (.inr (.inr (fun j => (q j).map (g.2.2 2))))))
  | 10 => .inl (g.2.1 0, 16, .inl f)
  | 11 => .inl (g.2.1 0, 4, .inl f)
  | 12 => .inr (4, [.int (f 0), .int (f 1), .ref (g.2.2 13 2), .ref (g.2.2 13 3), .ref (g.2.2 13 4), .int (f 5), .ref (g.2.2 13 6), .ref (g.2.2 13 7), .ref (g.2.2 13 8), .ref (g.2.2 13 9), .ref (g.2.2 13 10), .ref (g.2.2 13 11), .ref (g.2.2 13 12), .int (f 13), .ref (g.2.2 13 14), .ref (g.2.2 13 15), .ref (g.2.2 13 16), .ref (g.2.2 13 17), .ref (g.2.2 13 18), .ref (g.2.2 13 19), .ref (g.2.2 13 20), .ref (g.2.2 13 21), .ref (g.2.2 13 22), .ref (g.2.2 13 23)])
  | 13 => .inl (if i = 4 then g.2.1 1 else g.2.1 0, wML i, .inl f)
  | _ => .inl (g.2.1 5, 1, .inr (.inl O))
def wHd (g : wG) (z : wZ) (I : wI) (P : wP) (O : wO) (H : Heap) : Prop := (∀ k i, wAl z k i → va_at g.1 vwCl (g.2.2 k i, wE g (I k i) (P k i) O k i) H) ∧ ∀ k i k' i', wAl z k i → wAl z k' i' → g.2.2 k i = g.2.2 k' i' → k = k' ∧ i = i'
def wA (g : wG) (z : wZ) (q : Nat) : Prop := ∃ k i, wAl z k i ∧ q = g.2.2 k i
def upI (I : wI) (a b j : Nat) (v : Int32) : wI := fun k i => if k = a ∧ i = b then upd (I k i) j v else I k i
def upP (P : wP) (a b j : Nat) (v : Option Nat) : wP := fun k i => if k = a ∧ i = b then va_up (P k i) j v else P k i
theorem upI_at (I : wI) (a b j : Nat) (v : Int32) (k i c : Nat) : upI I a b j v k i c = if k = a ∧ i = b ∧ c = j then v else I k i c := by
  unfold upI upd
  by_cases h1 : k = a ∧ i = b <;> by_cases h2 : c = j <;> simp [h1, h2] <;> (try (intro h3 h4; exact absurd ⟨h3, h4⟩ h1))
theorem upP_at (P : wP) (a b j : Nat) (v : Option Nat) (k i c : Nat) : upP P a b j v k i c = if k = a ∧ i = b ∧ c = j then v else P k i c := by
  unfold upP va_up
  by_cases h1 : k = a ∧ i = b <;> by_cases h2 : c = j <;> simp [h1, h2] <;> (try (intro h3 h4; exact absurd ⟨h3, h4⟩ h1))
theorem upI_row (I : wI) (a b j : Nat) (v : Int32) : upI I a b j v a b = upd (I a b) j v := by unfold upI; simp
theorem upP_row (P : wP) (a b j : Nat) (v : Option Nat) : upP P a b j v a b = va_up (P a b) j v := by unfold upP; simp
theorem upI_off (I : wI) {a b j k i : Nat} (v : Int32) (h : ¬ (k = a ∧ i = b)) : upI I a b j v k i = I k i := by unfold upI; simp [h]
theorem upP_off (P : wP) {a b j k i : Nat} (v : Option Nat) (h : ¬ (k = a ∧ i = b)) : upP P a b j v k i = P k i := by unfold upP; simp [h]
/-- what is written in one place leaves the others -/
theorem wHd.put {g : wG} {z : wZ} {I I' : wI} {P P' : wP} {O O' : wO} {H H1 : Heap} {a b : Nat} (h : wHd g z I P O H) (hab : wAl z a b) (hI : ∀ k i, ¬ (k = a ∧ i = b) → I' k i = I k i) (hP : ∀ k i, ¬ (k = a ∧ i = b) → P' k i = P k i) (hO : ∀ k i, wAl z k i → ¬ (k = a ∧ i = b) → wE g (I k i) (P k i) O' k i = wE g (I k i) (P k i) O k i)
    (he : va_at g.1 vwCl (g.2.2 a b, wE g (I' a b) (P' a b) O' a b) H1) (oq : ∀ q : Nat, q ≠ g.2.2 a b → H1[q]? = H[q]?) : wHd g z I' P' O' H1 := by
  refine ⟨fun k i hk => ?_, h.2⟩
  by_cases hq : k = a ∧ i = b
  · obtain ⟨rfl, rfl⟩ := hq
    exact he
  · rw [hI k i hq, hP k i hq, hO k i hk hq]
    exact (h.1 k i hk).kept (oq _ (fun e => hq (h.2 k i a b hk hab e)))
theorem wE_O {g : wG} {z : wZ} {f : Nat → Int32} {q : Nat → Option Nat} {O O' : wO} {k i : Nat} (hk : wAl z k i) (h : k ≠ 14) : wE g f q O' k i = wE g f q O k i := by
  match k, hk, h with
  | 0, _, _ | 1, _, _ | 2, _, _ | 3, _, _ | 4, _, _ | 5, _, _ | 6, _, _ | 7, _, _ | 8, _, _ | 9, _, _ | 10, _, _ | 11, _, _ | 12, _, _ | 13, _, _ => rfl
  | 14, _, h => exact absurd rfl h
  | _ + 15, hk, _ => exact hk.elim
abbrev wK : Type := Program × Launch × Env × Room × State × MethodId × Array Value × List Frame × Method × Code × (State → Prop) × wG × (Nat → Prop)
def lk : List (Nat × Value) → Nat → Option Value
  | [], _ => none
  | q :: t, i => bif Nat.beq q.1 i then some q.2 else lk t i
theorem lk_mem : ∀ {L : List (Nat × Value)} {i : Nat} {v : Value}, lk L i = some v → (i, v) ∈ L
  | [], _, _, h => by cases h
  | (j, u) :: t, i, v, h => by
    unfold lk at h
    cases hb : Nat.beq j i with
    | true =>
      rw [hb] at h
      have e : j = i := Nat.eq_of_beq_eq_true hb
      cases h
      subst e
      exact List.mem_cons_self
    | false =>
      rw [hb] at h
      exact List.mem_cons_of_mem _ (lk_mem h)
def st1 (L : List (Nat × Value)) (i : Nat) (v : Value) : List (Nat × Value) := bif L.any (fun q => Nat.beq q.1 i) then L.map (fun q => bif Nat.beq q.1 i then (i, v) else q) else L ++ [(i, v)]
theorem st1_sub {L : List (Nat × Value)} {i : Nat} {v : Value} {q : Nat × Value} (h : q ∈ st1 L i v) : q = (i, v) ∨ (q ∈ L ∧ q.1 ≠ i) := by
  unfold st1 at h
  cases ha : L.any (fun q => Nat.beq q.1 i) with
  | true =>
    rw [ha] at h
    obtain ⟨p, hp, e⟩ := List.mem_map.mp (show q ∈ L.map (fun q => bif Nat.beq q.1 i then (i, v) else q) from h)
    cases hb : Nat.beq p.1 i with
    | true => rw [hb] at e; exact Or.inl e.symm
    | false =>
      rw [hb] at e
      have e2 : p = q := e
      subst e2
      exact Or.inr ⟨hp, fun z => by rw [z, Nat.beq_refl] at hb; cases hb⟩
  | false =>
    rw [ha] at h
    rcases List.mem_append.mp (show q ∈ L ++ [(i, v)] from h) with h1 | h1
    · refine Or.inr ⟨h1, fun z => ?_⟩
      have := List.any_eq_false.mp ha q h1
      rw [z, Nat.beq_refl] at this
      exact this rfl
    · exact Or.inl (List.mem_singleton.mp h1)
theorem st1_has {ls : Array Slot} {n : Nat} {L : List (Nat × Value)} {i : Nat} {v : Value} (h : lv_has ls n ((i, v) :: L.filter (fun q => !(q.1 == i) && !(q.1 + 1 == i && q.2.category == 2)))) (c1 : ∀ q ∈ L, q.2.category = 1) : lv_has ls n (st1 L i v) := by
  refine ⟨h.1, h.2.1, fun q hq => ?_⟩
  rcases st1_sub hq with e | ⟨hm, hne⟩
  · rw [e]; exact h.2.2 _ List.mem_cons_self
  · exact h.2.2 q (List.mem_cons_of_mem _ (List.mem_filter.mpr ⟨hm, by simp [hne, c1 q hm]⟩))
theorem st1_cat {L : List (Nat × Value)} {i : Nat} {v : Value} (hv : v.category = 1) (c1 : ∀ q ∈ L, q.2.category = 1) : ∀ q ∈ st1 L i v, q.2.category = 1 := fun q hq => by
  rcases st1_sub hq with e | ⟨hm, _⟩
  · rw [e]; exact hv
  · exact c1 q hm
def G : wK → wZ → wI → wP → wO → Nat → Nat → Nat → List (Nat × Value) → List Value → Prop
  | (p, l, e, R, s, m, args, below, meth, cd, Q, g, A), z, I, P, O, c, n, pc, L, S => ∀ (H : Heap) (locs : List Loc) (ls : Array Slot), wHd g z I P O H → va_S A s.heap H locs → lv_has ls cd.maxLocals L → (∀ q ∈ L, q.2.category = 1) → W p l e R s m args below meth cd H locs c n Q (F0 m pc ls S)
def Cx : wK → ByteArray → String → Nat → Option FieldType → Room → wZ → Prop
  | (p, l, e, R, s, m, args, below, meth, cd, Q, g, A), cc, own, nL, ret, rm, z => p.tables.exec = Jvm.exec ∧ cd.code = cc ∧ meth.sig.returnType = ret ∧ cd.maxLocals = nL ∧ s.vm.findClass own = some m.cls ∧ (∀ w ∈ wAll, w.before args s = true) ∧ meth.locks = false ∧ va_K g.1 vwCl (wTy g) s ∧ R = rm ∧ ∀ k i, wAl z k i → A (g.2.2 k i)
abbrev Kg (K : wK) : wG := K.2.2.2.2.2.2.2.2.2.2.2.1
abbrev Kl (K : wK) : Launch := K.2.1
variable {K : wK} {cc : ByteArray} {own : String} {nL : Nat} {ret : Option FieldType} {rm : Room} {z : wZ} {I : wI} {P : wP} {O : wO} {c n pc pc' : Nat} {L : List (Nat × Value)} {S : List Value}

theorem g_iconst (C : Cx K cc own nL ret rm z) {k : Int} {v : Int32} (d : decode cc pc = .ok (.iconst k, 1)) (hv : Int32.ofInt k = v) (hp : pc + 1 = pc') (kk : G K z I P O c n pc' L (.int v :: S)) : G K z I P O c n pc L (S) := by
  subst hp
  obtain ⟨p, l, e, R, s, m, args, below, meth, cd, Q, g, A⟩ := K
  intro H locs ls hH hS hl hc
  exact lv_iconst C.1 C.2.1 d hv (kk H locs ls hH hS hl hc)

theorem g_bipush (C : Cx K cc own nL ret rm z) {k : Int} {v : Int32} (d : decode cc pc = .ok (.bipush k, 2)) (hv : (Int8.ofInt k).toInt32 = v) (hp : pc + 2 = pc') (kk : G K z I P O c n pc' L (.int v :: S)) : G K z I P O c n pc L (S) := by
  subst hp
  obtain ⟨p, l, e, R, s, m, args, below, meth, cd, Q, g, A⟩ := K
  intro H locs ls hH hS hl hc
  exact lv_bipush C.1 C.2.1 d hv (kk H locs ls hH hS hl hc)

theorem g_sipush (C : Cx K cc own nL ret rm z) {k : Int} {v : Int32} (d : decode cc pc = .ok (.sipush k, 3)) (hv : (Int16.ofInt k).toInt32 = v) (hp : pc + 3 = pc') (kk : G K z I P O c n pc' L (.int v :: S)) : G K z I P O c n pc L (S) := by
  subst hp
  obtain ⟨p, l, e, R, s, m, args, below, meth, cd, Q, g, A⟩ := K
  intro H locs ls hH hS hl hc
  exact lv_sipush C.1 C.2.1 d hv (kk H locs ls hH hS hl hc)

theorem g_null (C : Cx K cc own nL ret rm z) (d : decode cc pc = .ok (.aconst_null, 1)) (hp : pc + 1 = pc') (kk : G K z I P O c n pc' L (.null :: S)) : G K z I P O c n pc L (S) := by
  subst hp
  obtain ⟨p, l, e, R, s, m, args, below, meth, cd, Q, g, A⟩ := K
  intro H locs ls hH hS hl hc
  exact lv_null C.1 C.2.1 d (kk H locs ls hH hS hl hc)

theorem g_lconst (C : Cx K cc own nL ret rm z) {k : Fin 2} {v : Int64} (d : decode cc pc = .ok (.lconst k, 1)) (hv : Int64.ofNat (k : Nat) = v) (hp : pc + 1 = pc') (kk : G K z I P O c n pc' L (.long v :: S)) : G K z I P O c n pc L (S) := by
  subst hp
  obtain ⟨p, l, e, R, s, m, args, below, meth, cd, Q, g, A⟩ := K
  intro H locs ls hH hS hl hc
  exact lv_lconst C.1 C.2.1 d hv (kk H locs ls hH hS hl hc)

theorem g_iload_n (C : Cx K cc own nL ret rm z) {k : Fin 4} {x : Int32} (d : decode cc pc = .ok (.iload_n k, 1)) (hL : lk L k.val = some (.int x)) (hp : pc + 1 = pc') (kk : G K z I P O c n pc' L (.int x :: S)) : G K z I P O c n pc L (S) := by
  subst hp
  obtain ⟨p, l, e, R, s, m, args, below, meth, cd, Q, g, A⟩ := K
  intro H locs ls hH hS hl hc
  exact lv_iload_n C.1 C.2.1 d rfl (hl.2.2 _ (lk_mem hL)) (kk H locs ls hH hS hl hc)

theorem g_iload (C : Cx K cc own nL ret rm z) {i : Nat} {x : Int32} (d : decode cc pc = .ok (.iload i, 2)) (hL : lk L i = some (.int x)) (hp : pc + 2 = pc') (kk : G K z I P O c n pc' L (.int x :: S)) : G K z I P O c n pc L (S) := by
  subst hp
  obtain ⟨p, l, e, R, s, m, args, below, meth, cd, Q, g, A⟩ := K
  intro H locs ls hH hS hl hc
  exact lv_iload C.1 C.2.1 d (hl.2.2 _ (lk_mem hL)) (kk H locs ls hH hS hl hc)

theorem g_aload_n (C : Cx K cc own nL ret rm z) {k : Fin 4} {x : Nat} (d : decode cc pc = .ok (.aload_n k, 1)) (hL : lk L k.val = some (.ref x)) (hp : pc + 1 = pc') (kk : G K z I P O c n pc' L (.ref x :: S)) : G K z I P O c n pc L (S) := by
  subst hp
  obtain ⟨p, l, e, R, s, m, args, below, meth, cd, Q, g, A⟩ := K
  intro H locs ls hH hS hl hc
  exact lv_aload_n C.1 C.2.1 d rfl (hl.2.2 _ (lk_mem hL)) (kk H locs ls hH hS hl hc)

theorem g_aload (C : Cx K cc own nL ret rm z) {i x : Nat} (d : decode cc pc = .ok (.aload i, 2)) (hL : lk L i = some (.ref x)) (hp : pc + 2 = pc') (kk : G K z I P O c n pc' L (.ref x :: S)) : G K z I P O c n pc L (S) := by
  subst hp
  obtain ⟨p, l, e, R, s, m, args, below, meth, cd, Q, g, A⟩ := K
  intro H locs ls hH hS hl hc
  exact lv_aload C.1 C.2.1 d (hl.2.2 _ (lk_mem hL)) (kk H locs ls hH hS hl hc)

theorem g_aload_nN (C : Cx K cc own nL ret rm z) {k : Fin 4} (d : decode cc pc = .ok (.aload_n k, 1)) (hL : lk L k.val = some .null) (hp : pc + 1 = pc') (kk : G K z I P O c n pc' L (.null :: S)) : G K z I P O c n pc L (S) := by
  subst hp
  obtain ⟨p, l, e, R, s, m, args, below, meth, cd, Q, g, A⟩ := K
  intro H locs ls hH hS hl hc
  exact lv_aload_nN C.1 C.2.1 d rfl (hl.2.2 _ (lk_mem hL)) (kk H locs ls hH hS hl hc)

theorem g_aloadN (C : Cx K cc own nL ret rm z) {i : Nat} (d : decode cc pc = .ok (.aload i, 2)) (hL : lk L i = some .null) (hp : pc + 2 = pc') (kk : G K z I P O c n pc' L (.null :: S)) : G K z I P O c n pc L (S) := by
  subst hp
  obtain ⟨p, l, e, R, s, m, args, below, meth, cd, Q, g, A⟩ := K
  intro H locs ls hH hS hl hc
  exact lv_aloadN C.1 C.2.1 d (hl.2.2 _ (lk_mem hL)) (kk H locs ls hH hS hl hc)

theorem g_istore_n (C : Cx K cc own nL ret rm z) {k : Fin 4} {x : Int32} (d : decode cc pc = .ok (.istore_n k, 1)) (hn : Nat.blt k.val nL = true) (hp : pc + 1 = pc') (kk : G K z I P O c n pc' (st1 L k.val (.int x)) S) : G K z I P O c n pc L (.int x :: S) := by
  subst hp
  obtain ⟨p, l, e, R, s, m, args, below, meth, cd, Q, g, A⟩ := K
  intro H locs ls hH hS hl hc
  exact lv_istore_n C.1 C.2.1 d rfl hl (by rw [C.2.2.2.1]; exact Nat.le_of_ble_eq_true hn) rfl (fun ls' hl' => kk H locs ls' hH hS (st1_has hl' hc) (st1_cat rfl hc))

theorem g_istore (C : Cx K cc own nL ret rm z) {i : Nat} {x : Int32} (d : decode cc pc = .ok (.istore i, 2)) (hn : Nat.blt i nL = true) (hp : pc + 2 = pc') (kk : G K z I P O c n pc' (st1 L i (.int x)) S) : G K z I P O c n pc L (.int x :: S) := by
  subst hp
  obtain ⟨p, l, e, R, s, m, args, below, meth, cd, Q, g, A⟩ := K
  intro H locs ls hH hS hl hc
  exact lv_istore C.1 C.2.1 d hl (by rw [C.2.2.2.1]; exact Nat.le_of_ble_eq_true hn) rfl (fun ls' hl' => kk H locs ls' hH hS (st1_has hl' hc) (st1_cat rfl hc))

theorem g_astore_n (C : Cx K cc own nL ret rm z) {k : Fin 4} {x : Nat} (d : decode cc pc = .ok (.astore_n k, 1)) (hn : Nat.blt k.val nL = true) (hp : pc + 1 = pc') (kk : G K z I P O c n pc' (st1 L k.val (.ref x)) S) : G K z I P O c n pc L (.ref x :: S) := by
  subst hp
  obtain ⟨p, l, e, R, s, m, args, below, meth, cd, Q, g, A⟩ := K
  intro H locs ls hH hS hl hc
  exact lv_astore_n C.1 C.2.1 d rfl hl (by rw [C.2.2.2.1]; exact Nat.le_of_ble_eq_true hn) rfl (fun ls' hl' => kk H locs ls' hH hS (st1_has hl' hc) (st1_cat rfl hc))

theorem g_astore (C : Cx K cc own nL ret rm z) {i x : Nat} (d : decode cc pc = .ok (.astore i, 2)) (hn : Nat.blt i nL = true) (hp : pc + 2 = pc') (kk : G K z I P O c n pc' (st1 L i (.ref x)) S) : G K z I P O c n pc L (.ref x :: S) := by
  subst hp
  obtain ⟨p, l, e, R, s, m, args, below, meth, cd, Q, g, A⟩ := K
  intro H locs ls hH hS hl hc
  exact lv_astore C.1 C.2.1 d hl (by rw [C.2.2.2.1]; exact Nat.le_of_ble_eq_true hn) rfl (fun ls' hl' => kk H locs ls' hH hS (st1_has hl' hc) (st1_cat rfl hc))

theorem g_astore_nN (C : Cx K cc own nL ret rm z) {k : Fin 4} (d : decode cc pc = .ok (.astore_n k, 1)) (hn : Nat.blt k.val nL = true) (hp : pc + 1 = pc') (kk : G K z I P O c n pc' (st1 L k.val (.null)) S) : G K z I P O c n pc L (.null :: S) := by
  subst hp
  obtain ⟨p, l, e, R, s, m, args, below, meth, cd, Q, g, A⟩ := K
  intro H locs ls hH hS hl hc
  exact lv_astore_nN C.1 C.2.1 d rfl hl (by rw [C.2.2.2.1]; exact Nat.le_of_ble_eq_true hn) rfl (fun ls' hl' => kk H locs ls' hH hS (st1_has hl' hc) (st1_cat rfl hc))

theorem g_astoreN (C : Cx K cc own nL ret rm z) {i : Nat} (d : decode cc pc = .ok (.astore i, 2)) (hn : Nat.blt i nL = true) (hp : pc + 2 = pc') (kk : G K z I P O c n pc' (st1 L i (.null)) S) : G K z I P O c n pc L (.null :: S) := by
  subst hp
  obtain ⟨p, l, e, R, s, m, args, below, meth, cd, Q, g, A⟩ := K
  intro H locs ls hH hS hl hc
  exact lv_astoreN C.1 C.2.1 d hl (by rw [C.2.2.2.1]; exact Nat.le_of_ble_eq_true hn) rfl (fun ls' hl' => kk H locs ls' hH hS (st1_has hl' hc) (st1_cat rfl hc))

theorem g_iinc (C : Cx K cc own nL ret rm z) {i : Nat} {k : Int} {x v : Int32} (d : decode cc pc = .ok (.iinc i k, 3)) (hL : lk L i = some (.int x)) (hv : x + Int32.ofInt k = v) (hn : Nat.blt i nL = true) (hp : pc + 3 = pc') (kk : G K z I P O c n pc' (st1 L i (.int v)) S) : G K z I P O c n pc L S := by
  subst hp
  obtain ⟨p, l, e, R, s, m, args, below, meth, cd, Q, g, A⟩ := K
  intro H locs ls hH hS hl hc
  obtain ⟨j, hj⟩ := List.getElem?_of_mem (lk_mem hL)
  exact lv_iinc C.1 C.2.1 d hl hj hv (by rw [C.2.2.2.1]; exact Nat.le_of_ble_eq_true hn) rfl (fun ls' hl' => kk H locs ls' hH hS (st1_has hl' hc) (st1_cat rfl hc))

theorem g_iadd (C : Cx K cc own nL ret rm z) {x y : Int32} (d : decode cc pc = .ok (.iadd, 1)) (hp : pc + 1 = pc') (kk : G K z I P O c n pc' L (.int (x + y) :: S)) : G K z I P O c n pc L (.int y :: .int x :: S) := by
  subst hp
  obtain ⟨p, l, e, R, s, m, args, below, meth, cd, Q, g, A⟩ := K
  intro H locs ls hH hS hl hc
  exact lv_iadd C.1 C.2.1 d (kk H locs ls hH hS hl hc)

theorem g_isub (C : Cx K cc own nL ret rm z) {x y : Int32} (d : decode cc pc = .ok (.isub, 1)) (hp : pc + 1 = pc') (kk : G K z I P O c n pc' L (.int (x - y) :: S)) : G K z I P O c n pc L (.int y :: .int x :: S) := by
  subst hp
  obtain ⟨p, l, e, R, s, m, args, below, meth, cd, Q, g, A⟩ := K
  intro H locs ls hH hS hl hc
  exact lv_isub C.1 C.2.1 d (kk H locs ls hH hS hl hc)

theorem g_imul (C : Cx K cc own nL ret rm z) {x y : Int32} (d : decode cc pc = .ok (.imul, 1)) (hp : pc + 1 = pc') (kk : G K z I P O c n pc' L (.int (x * y) :: S)) : G K z I P O c n pc L (.int y :: .int x :: S) := by
  subst hp
  obtain ⟨p, l, e, R, s, m, args, below, meth, cd, Q, g, A⟩ := K
  intro H locs ls hH hS hl hc
  exact lv_imul C.1 C.2.1 d (kk H locs ls hH hS hl hc)

theorem g_iand (C : Cx K cc own nL ret rm z) {x y : Int32} (d : decode cc pc = .ok (.iand, 1)) (hp : pc + 1 = pc') (kk : G K z I P O c n pc' L (.int (x &&& y) :: S)) : G K z I P O c n pc L (.int y :: .int x :: S) := by
  subst hp
  obtain ⟨p, l, e, R, s, m, args, below, meth, cd, Q, g, A⟩ := K
  intro H locs ls hH hS hl hc
  exact lv_iand C.1 C.2.1 d (kk H locs ls hH hS hl hc)

theorem g_ior (C : Cx K cc own nL ret rm z) {x y : Int32} (d : decode cc pc = .ok (.ior, 1)) (hp : pc + 1 = pc') (kk : G K z I P O c n pc' L (.int (x ||| y) :: S)) : G K z I P O c n pc L (.int y :: .int x :: S) := by
  subst hp
  obtain ⟨p, l, e, R, s, m, args, below, meth, cd, Q, g, A⟩ := K
  intro H locs ls hH hS hl hc
  exact lv_ior C.1 C.2.1 d (kk H locs ls hH hS hl hc)

theorem g_ishr (C : Cx K cc own nL ret rm z) {x y : Int32} (d : decode cc pc = .ok (.ishr, 1)) (hp : pc + 1 = pc') (kk : G K z I P O c n pc' L (.int (x >>> (y &&& 31)) :: S)) : G K z I P O c n pc L (.int y :: .int x :: S) := by
  subst hp
  obtain ⟨p, l, e, R, s, m, args, below, meth, cd, Q, g, A⟩ := K
  intro H locs ls hH hS hl hc
  exact lv_ishr C.1 C.2.1 d (kk H locs ls hH hS hl hc)

theorem g_idiv (C : Cx K cc own nL ret rm z) {x y : Int32} (d : decode cc pc = .ok (.idiv, 1)) (hy : ¬ y = 0) (hp : pc + 1 = pc') (kk : G K z I P O c n pc' L (.int (x / y) :: S)) : G K z I P O c n pc L (.int y :: .int x :: S) := by
  subst hp
  obtain ⟨p, l, e, R, s, m, args, below, meth, cd, Q, g, A⟩ := K
  intro H locs ls hH hS hl hc
  exact lv_idiv C.1 C.2.1 d hy (kk H locs ls hH hS hl hc)

theorem g_i2l (C : Cx K cc own nL ret rm z) {x : Int32} (d : decode cc pc = .ok (.i2l, 1)) (hp : pc + 1 = pc') (kk : G K z I P O c n pc' L (.long x.toInt64 :: S)) : G K z I P O c n pc L (.int x :: S) := by
  subst hp
  obtain ⟨p, l, e, R, s, m, args, below, meth, cd, Q, g, A⟩ := K
  intro H locs ls hH hS hl hc
  exact lv_i2l C.1 C.2.1 d rfl (kk H locs ls hH hS hl hc)

theorem g_lcmp (C : Cx K cc own nL ret rm z) {x y : Int64} (d : decode cc pc = .ok (.lcmp, 1)) (hp : pc + 1 = pc') (kk : G K z I P O c n pc' L (.int (lg_cmp x y) :: S)) : G K z I P O c n pc L (.long y :: .long x :: S) := by
  subst hp
  obtain ⟨p, l, e, R, s, m, args, below, meth, cd, Q, g, A⟩ := K
  intro H locs ls hH hS hl hc
  exact W.lcmp C.1 C.2.1 d (kk H locs ls hH hS hl hc)

theorem g_dup (C : Cx K cc own nL ret rm z) {v : Value} (d : decode cc pc = .ok (.dup, 1)) (hv : v.category = 1) (hp : pc + 1 = pc') (kk : G K z I P O c n pc' L (v :: v :: S)) : G K z I P O c n pc L (v :: S) := by
  subst hp
  obtain ⟨p, l, e, R, s, m, args, below, meth, cd, Q, g, A⟩ := K
  intro H locs ls hH hS hl hc
  exact lv_dup C.1 C.2.1 d hv (kk H locs ls hH hS hl hc)

theorem g_dup2 (C : Cx K cc own nL ret rm z) {v u : Value} (d : decode cc pc = .ok (.dup2, 1)) (hv : v.category = 1) (hu : u.category = 1) (hp : pc + 1 = pc') (kk : G K z I P O c n pc' L (v :: u :: v :: u :: S)) : G K z I P O c n pc L (v :: u :: S) := by
  subst hp
  obtain ⟨p, l, e, R, s, m, args, below, meth, cd, Q, g, A⟩ := K
  intro H locs ls hH hS hl hc
  exact lv_dup2_11 C.1 C.2.1 d hv hu (kk H locs ls hH hS hl hc)

theorem g_if_eq (C : Cx K cc own nL ret rm z) {x : Int32} {off : Int} {tgt : Nat} (d : decode cc pc = .ok (.ifCond .eq off, 3)) (ht : (pc : Int) + off = (tgt : Int)) (hp : pc + 3 = pc') (kt : x = 0 → G K z I P O c n tgt L S) (kf : ¬ x = 0 → G K z I P O c n pc' L S) : G K z I P O c n pc L (.int x :: S) := by
  subst hp
  obtain ⟨p, l, e, R, s, m, args, below, meth, cd, Q, g, A⟩ := K
  intro H locs ls hH hS hl hc
  exact lv_if_eq C.1 C.2.1 d ht (fun h => kt h H locs ls hH hS hl hc) (fun h => kf h H locs ls hH hS hl hc)

theorem g_if_ne (C : Cx K cc own nL ret rm z) {x : Int32} {off : Int} {tgt : Nat} (d : decode cc pc = .ok (.ifCond .ne off, 3)) (ht : (pc : Int) + off = (tgt : Int)) (hp : pc + 3 = pc') (kt : ¬ x = 0 → G K z I P O c n tgt L S) (kf : x = 0 → G K z I P O c n pc' L S) : G K z I P O c n pc L (.int x :: S) := by
  subst hp
  obtain ⟨p, l, e, R, s, m, args, below, meth, cd, Q, g, A⟩ := K
  intro H locs ls hH hS hl hc
  exact lv_if_ne C.1 C.2.1 d ht (fun h => kt h H locs ls hH hS hl hc) (fun h => kf h H locs ls hH hS hl hc)

theorem g_if_lt (C : Cx K cc own nL ret rm z) {x : Int32} {off : Int} {tgt : Nat} (d : decode cc pc = .ok (.ifCond .lt off, 3)) (ht : (pc : Int) + off = (tgt : Int)) (hp : pc + 3 = pc') (kt : x < 0 → G K z I P O c n tgt L S) (kf : ¬ x < 0 → G K z I P O c n pc' L S) : G K z I P O c n pc L (.int x :: S) := by
  subst hp
  obtain ⟨p, l, e, R, s, m, args, below, meth, cd, Q, g, A⟩ := K
  intro H locs ls hH hS hl hc
  exact lv_if_lt C.1 C.2.1 d ht (fun h => kt h H locs ls hH hS hl hc) (fun h => kf h H locs ls hH hS hl hc)

theorem g_if_ge (C : Cx K cc own nL ret rm z) {x : Int32} {off : Int} {tgt : Nat} (d : decode cc pc = .ok (.ifCond .ge off, 3)) (ht : (pc : Int) + off = (tgt : Int)) (hp : pc + 3 = pc') (kt : 0 ≤ x → G K z I P O c n tgt L S) (kf : ¬ 0 ≤ x → G K z I P O c n pc' L S) : G K z I P O c n pc L (.int x :: S) := by
  subst hp
  obtain ⟨p, l, e, R, s, m, args, below, meth, cd, Q, g, A⟩ := K
  intro H locs ls hH hS hl hc
  exact lv_if_ge C.1 C.2.1 d ht (fun h => kt h H locs ls hH hS hl hc) (fun h => kf h H locs ls hH hS hl hc)

theorem g_if_gt (C : Cx K cc own nL ret rm z) {x : Int32} {off : Int} {tgt : Nat} (d : decode cc pc = .ok (.ifCond .gt off, 3)) (ht : (pc : Int) + off = (tgt : Int)) (hp : pc + 3 = pc') (kt : 0 < x → G K z I P O c n tgt L S) (kf : ¬ 0 < x → G K z I P O c n pc' L S) : G K z I P O c n pc L (.int x :: S) := by
  subst hp
  obtain ⟨p, l, e, R, s, m, args, below, meth, cd, Q, g, A⟩ := K
  intro H locs ls hH hS hl hc
  exact lv_if_gt C.1 C.2.1 d ht (fun h => kt h H locs ls hH hS hl hc) (fun h => kf h H locs ls hH hS hl hc)

theorem g_if_le (C : Cx K cc own nL ret rm z) {x : Int32} {off : Int} {tgt : Nat} (d : decode cc pc = .ok (.ifCond .le off, 3)) (ht : (pc : Int) + off = (tgt : Int)) (hp : pc + 3 = pc') (kt : x ≤ 0 → G K z I P O c n tgt L S) (kf : ¬ x ≤ 0 → G K z I P O c n pc' L S) : G K z I P O c n pc L (.int x :: S) := by
  subst hp
  obtain ⟨p, l, e, R, s, m, args, below, meth, cd, Q, g, A⟩ := K
  intro H locs ls hH hS hl hc
  exact lv_if_le C.1 C.2.1 d ht (fun h => kt h H locs ls hH hS hl hc) (fun h => kf h H locs ls hH hS hl hc)

theorem g_icmp_eq (C : Cx K cc own nL ret rm z) {x y : Int32} {off : Int} {tgt : Nat} (d : decode cc pc = .ok (.if_icmp .eq off, 3)) (ht : (pc : Int) + off = (tgt : Int)) (hp : pc + 3 = pc') (kt : x = y → G K z I P O c n tgt L S) (kf : ¬ x = y → G K z I P O c n pc' L S) : G K z I P O c n pc L (.int y :: .int x :: S) := by
  subst hp
  obtain ⟨p, l, e, R, s, m, args, below, meth, cd, Q, g, A⟩ := K
  intro H locs ls hH hS hl hc
  exact lv_icmp_eq C.1 C.2.1 d ht (fun h => kt h H locs ls hH hS hl hc) (fun h => kf h H locs ls hH hS hl hc)

theorem g_icmp_ne (C : Cx K cc own nL ret rm z) {x y : Int32} {off : Int} {tgt : Nat} (d : decode cc pc = .ok (.if_icmp .ne off, 3)) (ht : (pc : Int) + off = (tgt : Int)) (hp : pc + 3 = pc') (kt : ¬ x = y → G K z I P O c n tgt L S) (kf : x = y → G K z I P O c n pc' L S) : G K z I P O c n pc L (.int y :: .int x :: S) := by
  subst hp
  obtain ⟨p, l, e, R, s, m, args, below, meth, cd, Q, g, A⟩ := K
  intro H locs ls hH hS hl hc
  exact lv_icmp_ne C.1 C.2.1 d ht (fun h => kt h H locs ls hH hS hl hc) (fun h => kf h H locs ls hH hS hl hc)

theorem g_icmp_lt (C : Cx K cc own nL ret rm z) {x y : Int32} {off : Int} {tgt : Nat} (d : decode cc pc = .ok (.if_icmp .lt off, 3)) (ht : (pc : Int) + off = (tgt : Int)) (hp : pc + 3 = pc') (kt : x < y → G K z I P O c n tgt L S) (kf : ¬ x < y → G K z I P O c n pc' L S) : G K z I P O c n pc L (.int y :: .int x :: S) := by
  subst hp
  obtain ⟨p, l, e, R, s, m, args, below, meth, cd, Q, g, A⟩ := K
  intro H locs ls hH hS hl hc
  exact lv_icmp_lt C.1 C.2.1 d ht (fun h => kt h H locs ls hH hS hl hc) (fun h => kf h H locs ls hH hS hl hc)

theorem g_icmp_ge (C : Cx K cc own nL ret rm z) {x y : Int32} {off : Int} {tgt : Nat} (d : decode cc pc = .ok (.if_icmp .ge off, 3)) (ht : (pc : Int) + off = (tgt : Int)) (hp : pc + 3 = pc') (kt : y ≤ x → G K z I P O c n tgt L S) (kf : ¬ y ≤ x → G K z I P O c n pc' L S) : G K z I P O c n pc L (.int y :: .int x :: S) := by
  subst hp
  obtain ⟨p, l, e, R, s, m, args, below, meth, cd, Q, g, A⟩ := K
  intro H locs ls hH hS hl hc
  exact lv_icmp_ge C.1 C.2.1 d ht (fun h => kt h H locs ls hH hS hl hc) (fun h => kf h H locs ls hH hS hl hc)

theorem g_icmp_gt (C : Cx K cc own nL ret rm z) {x y : Int32} {off : Int} {tgt : Nat} (d : decode cc pc = .ok (.if_icmp .gt off, 3)) (ht : (pc : Int) + off = (tgt : Int)) (hp : pc + 3 = pc') (kt : y < x → G K z I P O c n tgt L S) (kf : ¬ y < x → G K z I P O c n pc' L S) : G K z I P O c n pc L (.int y :: .int x :: S) := by
  subst hp
  obtain ⟨p, l, e, R, s, m, args, below, meth, cd, Q, g, A⟩ := K
  intro H locs ls hH hS hl hc
  exact lv_icmp_gt C.1 C.2.1 d ht (fun h => kt h H locs ls hH hS hl hc) (fun h => kf h H locs ls hH hS hl hc)

theorem g_icmp_le (C : Cx K cc own nL ret rm z) {x y : Int32} {off : Int} {tgt : Nat} (d : decode cc pc = .ok (.if_icmp .le off, 3)) (ht : (pc : Int) + off = (tgt : Int)) (hp : pc + 3 = pc') (kt : x ≤ y → G K z I P O c n tgt L S) (kf : ¬ x ≤ y → G K z I P O c n pc' L S) : G K z I P O c n pc L (.int y :: .int x :: S) := by
  subst hp
  obtain ⟨p, l, e, R, s, m, args, below, meth, cd, Q, g, A⟩ := K
  intro H locs ls hH hS hl hc
  exact lv_icmp_le C.1 C.2.1 d ht (fun h => kt h H locs ls hH hS hl hc) (fun h => kf h H locs ls hH hS hl hc)

theorem g_acmp_eq (C : Cx K cc own nL ret rm z) {x y : Option Nat} {off : Int} {tgt : Nat} (d : decode cc pc = .ok (.if_acmp .eq off, 3)) (ht : (pc : Int) + off = (tgt : Int)) (hp : pc + 3 = pc') (kt : x = y → G K z I P O c n tgt L S) (kf : ¬ x = y → G K z I P O c n pc' L S) : G K z I P O c n pc L (va_rf y :: va_rf x :: S) := by
  subst hp
  obtain ⟨p, l, e, R, s, m, args, below, meth, cd, Q, g, A⟩ := K
  intro H locs ls hH hS hl hc
  exact lv_acmp_eq C.1 C.2.1 d ht (fun h => kt h H locs ls hH hS hl hc) (fun h => kf h H locs ls hH hS hl hc)

theorem g_acmp_ne (C : Cx K cc own nL ret rm z) {x y : Option Nat} {off : Int} {tgt : Nat} (d : decode cc pc = .ok (.if_acmp .ne off, 3)) (ht : (pc : Int) + off = (tgt : Int)) (hp : pc + 3 = pc') (kt : ¬ x = y → G K z I P O c n tgt L S) (kf : x = y → G K z I P O c n pc' L S) : G K z I P O c n pc L (va_rf y :: va_rf x :: S) := by
  subst hp
  obtain ⟨p, l, e, R, s, m, args, below, meth, cd, Q, g, A⟩ := K
  intro H locs ls hH hS hl hc
  exact lv_acmp_ne C.1 C.2.1 d ht (fun h => kt h H locs ls hH hS hl hc) (fun h => kf h H locs ls hH hS hl hc)

theorem g_goto (C : Cx K cc own nL ret rm z) {off : Int} {tgt : Nat} (d : decode cc pc = .ok (.goto off, 3)) (ht : (pc : Int) + off = (tgt : Int)) (kk : G K z I P O c n tgt L S) : G K z I P O c n pc L S := by
  obtain ⟨p, l, e, R, s, m, args, below, meth, cd, Q, g, A⟩ := K
  intro H locs ls hH hS hl hc
  exact lv_goto C.1 C.2.1 d ht (kk H locs ls hH hS hl hc)
theorem g_ifnonnull (C : Cx K cc own nL ret rm z) {x : Nat} {off : Int} {tgt : Nat} (d : decode cc pc = .ok (.ifnonnull off, 3)) (ht : (pc : Int) + off = (tgt : Int)) (kk : G K z I P O c n tgt L S) : G K z I P O c n pc L (.ref x :: S) := by
  obtain ⟨p, l, e, R, s, m, args, below, meth, cd, Q, g, A⟩ := K
  intro H locs ls hH hS hl hc
  exact lv_ifnonnull C.1 C.2.1 d ht (kk H locs ls hH hS hl hc)
theorem g_ifnullN (C : Cx K cc own nL ret rm z) {off : Int} {tgt : Nat} (d : decode cc pc = .ok (.ifnull off, 3)) (ht : (pc : Int) + off = (tgt : Int)) (kk : G K z I P O c n tgt L S) : G K z I P O c n pc L (.null :: S) := by
  obtain ⟨p, l, e, R, s, m, args, below, meth, cd, Q, g, A⟩ := K
  intro H locs ls hH hS hl hc
  exact lv_ifnullN C.1 C.2.1 d ht (kk H locs ls hH hS hl hc)
theorem g_ifnull (C : Cx K cc own nL ret rm z) {x : Nat} {off : Int} (d : decode cc pc = .ok (.ifnull off, 3)) (hp : pc + 3 = pc') (kk : G K z I P O c n pc' L S) : G K z I P O c n pc L (.ref x :: S) := by
  subst hp
  obtain ⟨p, l, e, R, s, m, args, below, meth, cd, Q, g, A⟩ := K
  intro H locs ls hH hS hl hc
  exact lv_ifnull C.1 C.2.1 d (kk H locs ls hH hS hl hc)
theorem g_ifnonnullN (C : Cx K cc own nL ret rm z) {off : Int} (d : decode cc pc = .ok (.ifnonnull off, 3)) (hp : pc + 3 = pc') (kk : G K z I P O c n pc' L S) : G K z I P O c n pc L (.null :: S) := by
  subst hp
  obtain ⟨p, l, e, R, s, m, args, below, meth, cd, Q, g, A⟩ := K
  intro H locs ls hH hS hl hc
  exact lv_ifnonnullN C.1 C.2.1 d (kk H locs ls hH hS hl hc)
theorem g_tabOut (C : Cx K cc own nL ret rm z) {dflt lo hi : Int} {offs : Array Int} {len : Nat} {x : Int32} {tgt : Nat} (d : decode cc pc = .ok (.tableswitch dflt lo hi offs, len)) (h : x.toInt < lo ∨ hi < x.toInt) (ht : (pc : Int) + dflt = (tgt : Int)) (kk : G K z I P O c n tgt L S) : G K z I P O c n pc L (.int x :: S) := by
  obtain ⟨p, l, e, R, s, m, args, below, meth, cd, Q, g, A⟩ := K
  intro H locs ls hH hS hl hc
  exact lv_tableOut C.1 C.2.1 d h ht (kk H locs ls hH hS hl hc)
theorem g_tabIn (C : Cx K cc own nL ret rm z) {dflt lo hi : Int} {offs : Array Int} {len : Nat} {x : Int32} {off : Int} {tgt : Nat} (k : Int) (hx : x.toInt = k) (d : decode cc pc = .ok (.tableswitch dflt lo hi offs, len)) (h1 : lo ≤ k) (h2 : k ≤ hi) (ho : offs[(k - lo).toNat]? = some off) (ht : (pc : Int) + off = (tgt : Int)) (kk : G K z I P O c n tgt L S) : G K z I P O c n pc L (.int x :: S) := by
  obtain ⟨p, l, e, R, s, m, args, below, meth, cd, Q, g, A⟩ := K
  intro H locs ls hH hS hl hc
  subst hx
  exact lv_tableIn C.1 C.2.1 d (Int.not_lt.mpr h1) (Int.not_lt.mpr h2) ho ht (kk H locs ls hH hS hl hc)

end WBase
end
section
section WRows
variable {p : Program} {l : Launch} {e : Env} {R : Room} {s : State} {m : MethodId} {args : Array Value} {below : List Frame} {meth : Method} {cd : Code} {H : Heap} {locs : List Loc} {cells slots : Nat} {Q : State → Prop}
variable {cc : ByteArray} {pc : Nat} {ls : Array Slot} {rest : List Value} {D : va_G} {cl : List vw_C} {a : Nat} {tys : List (ClassId × FieldType)}
/-- one field of one thing is written; nothing else -/
theorem cl_put (hexec : p.tables.exec = Jvm.exec) (hb : cd.code = cc) {own ref C : String} {T : u_T} {N ci index : Nat} {Ts : List Cond} (hts : ∀ w ∈ Ts, w.before args s = true) (hin : ∀ w ∈ u_ws C T N, w ∈ Ts) (ty0 : Nat → FieldType) (hty : ∀ k, k < N → parseFieldDescriptor (T k).2.2.1 = some (ty0 k)) (hnm : ∀ a, a < N → ∀ b, b < N → a ≠ b → (T a).2.1 ≠ (T b).2.1) (hown : s.vm.findClass own = some m.cls) (hK : va_K D cl tys s) {fs : List Value} (hP : va_at D cl (a, .inr (ci, fs)) H) (hc : cl[ci]? = some (C, T, N)) (k : Nat) (hk : k < N) (hlink : (Cond.fieldLink own index ref (T k).2.1 (T k).2.2.1).before args s = true) (hsame : ∀ x, s.fieldFound? (T k).1 (T k).2.1 (T k).2.2.1 = some x → s.fieldFound? ref (T k).2.1 (T k).2.2.1 = some x) (hfin : (T k).2.2.2 = false) {ty : FieldType} {v : Value} (hd : parseFieldDescriptor (T k).2.2.1 = some ty) (hn : narrow ty v = v) (hfit : fits ty v = true) (hl : k < fs.length)
    (hdg : decode cc pc = .ok (.putfield index, 3)) (kk : ∀ (H1 : Heap) (j : Nat), va_at D cl (a, .inr (ci, fs.set k v)) H1 → H1.size = H.size → (∀ q : Nat, q ≠ a → H1[q]? = H[q]?) → W p l e R s m args below meth cd H1 (locs ++ [⟨a, j⟩]) cells slots Q (F0 m (pc + 3) ls rest)) : W p l e R s m args below meth cd H locs cells slots Q (F0 m pc ls (v :: .ref a :: rest)) := by
  have hap := va_apart (own := own) hts hin ty0 hty hnm hK hc
  obtain ⟨r, h1, cell, q1, q2, q3, q4⟩ := hP
  have hr : r = (C, T, N) := Option.some.inj (h1.symm.trans hc)
  subst hr
  obtain ⟨hS, hfc, kC, hkC, hkind⟩ := hK.1 ci _ hc
  obtain ⟨cf, kf, fi, f, hi, hsl⟩ := hS k hk
  have hlay := hts _ (hin _ (u_in_lay hk))
  unfold u_lay at hlay
  rw [if_neg (by rw [hfin]; decide)] at hlay
  have hst := (u_facts hfc hkC (u_lays hts hin hk) hi).1
  have h6 := u_store hfc hkC hkind hlay hi hd hn hfit
  refine W.putK hexec hb (f := f) ⟨hown, hlink, ⟨_, _, _, hsame _ hi⟩, hst⟩ (by rw [q2]; exact h6) q1 q3 (by rw [hsl]; exact k2_hasslot (q4 k hk)) rfl rfl hdg fun H' e1 e2 e3 => ?_
  rw [hsl] at e1 ⊢
  exact kk H' _ ⟨_, hc, t_OB.to (V := updV (vp_V fs) k v) ⟨_, e1, q2, q3, t_set q4 hap hk v⟩ (fun j _ => vp_updV_set hl v j)⟩ e2 e3
theorem cl_one {q : Nat × va_E} (h : va_at D cl q H) : va_P D cl [q] H := fun k x hx => by
  cases k with
  | zero => cases hx; exact h
  | succ k => cases hx
theorem cl_iast (hexec : p.tables.exec = Jvm.exec) (hb : cd.code = cc) (hK : va_K D cl tys s) (t0 : Nat) {cA : ClassId} {n : Nat} {f : Nat → Int32} (ha : va_at D cl (a, .inl (cA, n, .inl f)) H) (ht : tys[t0]? = some (cA, .int)) {i : Int32} {x : Int32} (hin : vp_in i n) (hdg : decode cc pc = .ok (.iastore, 1))
    (kk : ∀ (H1 : Heap) (j : Nat), va_at D cl (a, .inl (cA, n, .inl (upd f i.toNatClampNeg x))) H1 → H1.size = H.size → (∀ q : Nat, q ≠ a → H1[q]? = H[q]?) → W p l e R s m args below meth cd H1 (locs ++ [⟨a, j⟩]) cells slots Q (F0 m (pc + 1) ls rest)) : W p l e R s m args below meth cd H locs cells slots Q (F0 m pc ls (.int x :: .int i :: .ref a :: rest)) := by
  refine W.iast hexec hb ha ((hK.2 t0 _ ht).1 n (fun j => .int (f j))) (fun q => by cases q) (by show ¬ (i < 0 ∨ (arrV _ _ _).slots.size ≤ _); rw [arrV_size]; exact hin) rfl rfl hdg fun H1 e z oq => ?_
  refine kk H1 _ ?_ z oq
  show H1[a]? = some (vp_cell _ _)
  rw [e]
  rw [vp_cell_i, vp_cell_i, arrV_store]
  congr 2
  funext q
  by_cases hq : q = i.toNatClampNeg
  · subst hq
    simp [updV, upd]
  · simp [updV, upd, hq]
theorem cl_zast (hexec : p.tables.exec = Jvm.exec) (hb : cd.code = cc) (hK : va_K D cl tys s) (t0 : Nat) {cA : ClassId} {n : Nat} {f : Nat → Int32} (ha : va_at D cl (a, .inl (cA, n, .inl f)) H) (ht : tys[t0]? = some (cA, .boolean)) {i : Int32} {x : Int32} (hin : vp_in i n) (hdg : decode cc pc = .ok (.bastore, 1))
    (kk : ∀ (H1 : Heap) (j : Nat), va_at D cl (a, .inl (cA, n, .inl (upd f i.toNatClampNeg (vp_nar .boolean x)))) H1 → H1.size = H.size → (∀ q : Nat, q ≠ a → H1[q]? = H[q]?) → W p l e R s m args below meth cd H1 (locs ++ [⟨a, j⟩]) cells slots Q (F0 m (pc + 1) ls rest)) : W p l e R s m args below meth cd H locs cells slots Q (F0 m pc ls (.int x :: .int i :: .ref a :: rest)) := by
  refine W.zast hexec hb ha ((hK.2 t0 _ ht).1 n (fun j => .int (f j))) (fun q => by cases q) (by show ¬ (i < 0 ∨ (arrV _ _ _).slots.size ≤ _); rw [arrV_size]; exact hin) rfl rfl hdg fun H1 e z oq => ?_
  refine kk H1 _ ?_ z oq
  show H1[a]? = some (vp_cell _ _)
  rw [e]
  rw [vp_cell_i, vp_cell_i, arrV_store]
  congr 2
  funext q
  by_cases hq : q = i.toNatClampNeg
  · subst hq
    simp [updV, upd, vp_nar]
    try rfl
  · simp [updV, upd, hq]
theorem cl_last (hexec : p.tables.exec = Jvm.exec) (hb : cd.code = cc) (hK : va_K D cl tys s) (t0 : Nat) {cA : ClassId} {n : Nat} {f : Nat → Int64} (ha : va_at D cl (a, .inl (cA, n, .inr (.inl f))) H) (ht : tys[t0]? = some (cA, .long)) {i : Int32} {x : Int64} (hin : vp_in i n) (hdg : decode cc pc = .ok (.lastore, 1))
    (kk : ∀ (H1 : Heap) (j : Nat), va_at D cl (a, .inl (cA, n, .inr (.inl (vp_updL f i.toNatClampNeg x)))) H1 → H1.size = H.size → (∀ q : Nat, q ≠ a → H1[q]? = H[q]?) → W p l e R s m args below meth cd H1 (locs ++ [⟨a, j⟩]) cells slots Q (F0 m (pc + 1) ls rest)) : W p l e R s m args below meth cd H locs cells slots Q (F0 m pc ls (.long x :: .int i :: .ref a :: rest)) := by
  refine W.last hexec hb ha ((hK.2 t0 _ ht).1 n (fun j => .long (f j))) (fun q => by cases q) (by show ¬ (i < 0 ∨ (arrV _ _ _).slots.size ≤ _); rw [arrV_size]; exact hin) rfl rfl hdg fun H1 e z oq => ?_
  refine kk H1 _ ?_ z oq
  show H1[a]? = some (vp_cell _ _)
  rw [e]
  rw [vp_cell_l, vp_cell_l, arrV_store]
  congr 2
  funext q
  by_cases hq : q = i.toNatClampNeg
  · subst hq
    simp [updV, vp_updL]
  · simp [updV, vp_updL, hq]
theorem cl_aast (hexec : p.tables.exec = Jvm.exec) (hb : cd.code = cc) (hK : va_K D cl tys s) (t0 ci : Nat) {cA : ClassId} {r : vw_C} {n v : Nat} {vs : List Value} {f : Nat → Option Nat} (ha : va_at D cl (a, .inl (cA, n, .inr (.inr (.inr (.inr f))))) H) (ht : tys[t0]? = some (cA, .object r.1)) (hv : va_at D cl (v, .inr (ci, vs)) H) (hc : cl[ci]? = some r) {i : Int32} (hin : vp_in i n) (hdg : decode cc pc = .ok (.aastore, 1))
    (kk : ∀ (H1 : Heap) (j : Nat), va_at D cl (a, .inl (cA, n, .inr (.inr (.inr (.inr (va_up f i.toNatClampNeg (some v))))))) H1 → H1.size = H.size → (∀ q : Nat, q ≠ a → H1[q]? = H[q]?) → W p l e R s m args below meth cd H1 (locs ++ [⟨a, j⟩]) cells slots Q (F0 m (pc + 1) ls rest)) : W p l e R s m args below meth cd H locs cells slots Q (F0 m pc ls (.ref v :: .int i :: .ref a :: rest)) := by
  have hlt : i.toNatClampNeg < n := Nat.not_le.mp fun q => hin (Or.inr q)
  have h0 : ¬ i < 0 := fun q => hin (Or.inl q)
  obtain ⟨r', hr', cellV, g1, g2, g3, -⟩ := hv
  have hcls := (hK.1 ci r hc).2
  obtain ⟨kA, comp, k1, k2, k3, -⟩ := (hK.2 t0 _ ht).2
  have hcomp : comp = D.1 ci := Option.some.inj (k3.symm.trans hcls.1)
  subst hcomp
  obtain ⟨kC, hkC, -⟩ := hcls.2
  refine W.aast hexec hb ha (fun q h => by cases h) (fun h => by cases h) k1 k2 rfl hkC ⟨h0, by show _ < (arrV _ _ _).slots.size; rw [arrV_size]; exact hlt⟩ g1 (fun q h => by rw [g3] at h; cases h) (by rw [g2]; exact hkC) (by rw [g2]; exact va_assign hcls) rfl rfl hdg fun H1 e z oq => ?_
  refine kk H1 _ ?_ z oq
  show H1[a]? = some (vp_cell _ _)
  rw [e]
  rw [vp_cell_q, vp_cell_q, arrV_store]
  congr 2
  funext q
  by_cases hq : q = i.toNatClampNeg
  · subst hq
    simp [updV, va_up, va_rf]
  · simp [updV, va_up, hq]
theorem cl_aastN (hexec : p.tables.exec = Jvm.exec) (hb : cd.code = cc) (hK : va_K D cl tys s) (t0 : Nat) {cA : ClassId} {C : String} {n : Nat} {f : Nat → Option Nat} (ha : va_at D cl (a, .inl (cA, n, .inr (.inr (.inr (.inr f))))) H) (ht : tys[t0]? = some (cA, .object C)) {i : Int32} (hin : vp_in i n) (hdg : decode cc pc = .ok (.aastore, 1))
    (kk : ∀ (H1 : Heap) (j : Nat), va_at D cl (a, .inl (cA, n, .inr (.inr (.inr (.inr (va_up f i.toNatClampNeg none)))))) H1 → H1.size = H.size → (∀ q : Nat, q ≠ a → H1[q]? = H[q]?) → W p l e R s m args below meth cd H1 (locs ++ [⟨a, j⟩]) cells slots Q (F0 m (pc + 1) ls rest)) : W p l e R s m args below meth cd H locs cells slots Q (F0 m pc ls (.null :: .int i :: .ref a :: rest)) := by
  refine va_WaastN (C := C) hexec hb ha ((hK.2 t0 _ ht).1 n (fun j => va_rf (f j))) (fun h => by cases h) (by show ¬ (i < 0 ∨ (arrV _ _ _).slots.size ≤ _); rw [arrV_size]; exact hin) rfl rfl hdg fun H1 e z oq => ?_
  refine kk H1 _ ?_ z oq
  show H1[a]? = some (vp_cell _ _)
  rw [e]
  rw [vp_cell_q, vp_cell_q, arrV_store]
  congr 2
  funext q
  by_cases hq : q = i.toNatClampNeg
  · subst hq
    simp [updV, va_up, va_rf]
  · simp [updV, va_up, hq]
end WRows
section WRows2
variable {K : wK} {cc : ByteArray} {own : String} {nL : Nat} {ret : Option FieldType} {rm : Room} {z : wZ} {I : wI} {P : wP} {O : wO} {c n pc pc' : Nat} {L : List (Nat × Value)} {S : List Value}
theorem g_getf (C : Cx K cc own nL ret rm z) {ci index k i f N : Nat} {fs : List Value} {v : Value} {Cn ref : String} {T : u_T} (d : decode cc pc = .ok (.getfield index, 3)) (hal : wAl z k i) (he : wE (Kg K) (I k i) (P k i) O k i = .inr (ci, fs)) (hc : vwCl[ci]? = some (Cn, T, N)) (hin : ∀ w ∈ u_ws Cn T N, w ∈ wAll) (hk : f < N) (hlink : Cond.fieldLink own index ref (T f).2.1 (T f).2.2.1 ∈ wAll) (hsame : (T f).1 = ref) (hv : fs[f]? = some v) (hp : pc + 3 = pc') (kk : G K z I P O c n pc' L (v :: S)) : G K z I P O c n pc L (.ref ((Kg K).2.2 k i) :: S) := by
  subst hp
  subst hsame
  obtain ⟨p, l, e, R, s, m, args, below, meth, cd, Q, g, A⟩ := K
  obtain ⟨hx, hb, -, -, hown, hts, -, hK, -, -⟩ := C
  intro H locs ls hH hS hl hcat
  have hP := cl_one (hH.1 k i hal)
  rw [show wE g (I k i) (P k i) O k i = .inr (ci, fs) from he] at hP
  exact va_get hx hb hts hin hown hK hP 0 rfl hc f hk (hts _ hlink) (fun _ h => h) hv d (kk H locs ls hH hS hl hcat)
theorem g_putf (C : Cx K cc own nL ret rm z) {ci index k i f N : Nat} {fs : List Value} {x : Int32} {Cn ref : String} {T : u_T} {ty0 : Nat → FieldType} {ty : FieldType} (d : decode cc pc = .ok (.putfield index, 3)) (hal : wAl z k i) (he : wE (Kg K) (I k i) (P k i) O k i = .inr (ci, fs)) (hc : vwCl[ci]? = some (Cn, T, N)) (hin : ∀ w ∈ u_ws Cn T N, w ∈ wAll) (hty : ∀ k, k < N → parseFieldDescriptor (T k).2.2.1 = some (ty0 k)) (hnm : ∀ a, a < N → ∀ b, b < N → a ≠ b → (T a).2.1 ≠ (T b).2.1) (hk : f < N) (hlink : Cond.fieldLink own index ref (T f).2.1 (T f).2.2.1 ∈ wAll) (hsame : (T f).1 = ref) (hfin : (T f).2.2.2 = false) (hd : parseFieldDescriptor (T f).2.2.1 = some ty) (hn : narrow ty (.int x) = .int x) (hfit : fits ty (.int x) = true) (hl : f < fs.length)
    (he' : wE (Kg K) (upd (I k i) f x) (P k i) O k i = .inr (ci, fs.set f (.int x))) (hp : pc + 3 = pc') (kk : G K z (upI I k i f x) P O c n pc' L S) : G K z I P O c n pc L (.int x :: .ref ((Kg K).2.2 k i) :: S) := by
  subst hp
  subst hsame
  obtain ⟨p, l, e, R, s, m, args, below, meth, cd, Q, g, A⟩ := K
  obtain ⟨hx, hb, -, -, hown, hts, -, hK, -, hA⟩ := C
  intro H locs ls hH hS hl2 hcat
  have hP := hH.1 k i hal
  rw [show wE g (I k i) (P k i) O k i = .inr (ci, fs) from he] at hP
  refine cl_put hx hb hts hin ty0 hty hnm hown hK hP hc f hk (hts _ hlink) (fun _ h => h) hfin hd hn hfit hl d (fun H1 j h1 hz oq => ?_)
  refine kk H1 _ ls (hH.put hal (fun a b h => upI_off I x h) (fun _ _ _ => rfl) (fun _ _ _ _ => rfl) ?_ oq) (hS.put hz oq (hA k i hal)) hl2 hcat
  rw [upI_row, show wE g (upd (I k i) f x) (P k i) O k i = _ from he']
  exact h1
theorem g_iald (C : Cx K cc own nL ret rm z) {k i N : Nat} {j : Int32} (t : Nat) (hj : j = nI t) (ht : t < N) (d : decode cc pc = .ok (.iaload, 1)) (hal : wAl z k i) (he : wE (Kg K) (I k i) (P k i) O k i = .inl ((Kg K).2.1 0, N, .inl (I k i))) (hN : Nat.blt N 5000 = true) (hp : pc + 1 = pc') (kk : G K z I P O c n pc' L (.int (I k i t) :: S)) : G K z I P O c n pc L (.int j :: .ref ((Kg K).2.2 k i) :: S) := by
  subst hp
  subst hj
  have hN : N < 5000 := Nat.le_of_ble_eq_true hN
  obtain ⟨p, l, e, R, s, m, args, below, meth, cd, Q, g, A⟩ := K
  obtain ⟨hx, hb, -, -, hown, hts, -, hK, -, hA⟩ := C
  intro H locs ls hH hS hl hcat
  have hP := cl_one (hH.1 k i hal)
  rw [show wE g (I k i) (P k i) O k i = _ from he] at hP
  have kk := kk H locs ls hH hS hl hcat
  rw [← nI_clamp (n := t) (by omega)] at kk
  exact va_iald hx hb hK hP 0 0 rfl rfl (vp_in_nI ht (by omega)) d kk
theorem g_zald (C : Cx K cc own nL ret rm z) {k i N : Nat} {j : Int32} (t : Nat) (hj : j = nI t) (ht : t < N) (d : decode cc pc = .ok (.baload, 1)) (hal : wAl z k i) (he : wE (Kg K) (I k i) (P k i) O k i = .inl ((Kg K).2.1 1, N, .inl (I k i))) (hN : Nat.blt N 5000 = true) (hp : pc + 1 = pc') (kk : G K z I P O c n pc' L (.int (I k i t) :: S)) : G K z I P O c n pc L (.int j :: .ref ((Kg K).2.2 k i) :: S) := by
  subst hp
  subst hj
  have hN : N < 5000 := Nat.le_of_ble_eq_true hN
  obtain ⟨p, l, e, R, s, m, args, below, meth, cd, Q, g, A⟩ := K
  obtain ⟨hx, hb, -, -, hown, hts, -, hK, -, hA⟩ := C
  intro H locs ls hH hS hl hcat
  have hP := cl_one (hH.1 k i hal)
  rw [show wE g (I k i) (P k i) O k i = _ from he] at hP
  have kk := kk H locs ls hH hS hl hcat
  rw [← nI_clamp (n := t) (by omega)] at kk
  exact va_zald hx hb hK hP 0 1 rfl rfl (vp_in_nI ht (by omega)) d kk
theorem g_iast (C : Cx K cc own nL ret rm z) {k i N : Nat} {j x : Int32} (t : Nat) (hj : j = nI t) (ht : t < N) (d : decode cc pc = .ok (.iastore, 1)) (hal : wAl z k i) (he : ∀ f, wE (Kg K) f (P k i) O k i = .inl ((Kg K).2.1 0, N, .inl f)) (hN : Nat.blt N 5000 = true) (hp : pc + 1 = pc') (kk : G K z (upI I k i t x) P O c n pc' L S) : G K z I P O c n pc L (.int x :: .int j :: .ref ((Kg K).2.2 k i) :: S) := by
  subst hp
  subst hj
  have hN : N < 5000 := Nat.le_of_ble_eq_true hN
  obtain ⟨p, l, e, R, s, m, args, below, meth, cd, Q, g, A⟩ := K
  obtain ⟨hx, hb, -, -, hown, hts, -, hK, -, hA⟩ := C
  intro H locs ls hH hS hl hcat
  have hP := hH.1 k i hal
  rw [show wE g (I k i) (P k i) O k i = _ from he _] at hP
  refine cl_iast hx hb hK 0 hP rfl (vp_in_nI ht (by omega)) d (fun H1 q h1 hz oq => ?_)
  refine kk H1 _ ls (hH.put hal (fun a b h => upI_off I x h) (fun _ _ _ => rfl) (fun _ _ _ _ => rfl) ?_ oq) (hS.put hz oq (hA k i hal)) hl hcat
  rw [upI_row, show wE g (upd (I k i) t x) (P k i) O k i = _ from he _]
  rw [nI_clamp (n := t) (by omega)] at h1
  exact h1
theorem g_zast (C : Cx K cc own nL ret rm z) {k i N : Nat} {j x : Int32} (t : Nat) (hj : j = nI t) (ht : t < N) (hx01 : vp_nar .boolean x = x) (d : decode cc pc = .ok (.bastore, 1)) (hal : wAl z k i) (he : ∀ f, wE (Kg K) f (P k i) O k i = .inl ((Kg K).2.1 1, N, .inl f)) (hN : Nat.blt N 5000 = true) (hp : pc + 1 = pc') (kk : G K z (upI I k i t x) P O c n pc' L S) : G K z I P O c n pc L (.int x :: .int j :: .ref ((Kg K).2.2 k i) :: S) := by
  subst hp
  subst hj
  have hN : N < 5000 := Nat.le_of_ble_eq_true hN
  obtain ⟨p, l, e, R, s, m, args, below, meth, cd, Q, g, A⟩ := K
  obtain ⟨hx, hb, -, -, hown, hts, -, hK, -, hA⟩ := C
  intro H locs ls hH hS hl hcat
  have hP := hH.1 k i hal
  rw [show wE g (I k i) (P k i) O k i = _ from he _] at hP
  refine cl_zast hx hb hK 1 hP rfl (vp_in_nI ht (by omega)) d (fun H1 q h1 hz oq => ?_)
  refine kk H1 _ ls (hH.put hal (fun a b h => upI_off I x h) (fun _ _ _ => rfl) (fun _ _ _ _ => rfl) ?_ oq) (hS.put hz oq (hA k i hal)) hl hcat
  rw [upI_row, show wE g (upd (I k i) t x) (P k i) O k i = _ from he _]
  rw [nI_clamp (n := t) (by omega), hx01] at h1
  exact h1
/-- a row of things: what lies there is known -/
theorem g_aald (C : Cx K cc own nL ret rm z) {k i N k2 t0 : Nat} {j : Int32} {Cn : String} {cA : ClassId} {o : Option Nat} (t : Nat) (hj : j = nI t) (ht : t < N) (hq : P k i t = o) (d : decode cc pc = .ok (.aaload, 1)) (hal : wAl z k i) (he : wE (Kg K) (I k i) (P k i) O k i = .inl (cA, N, .inr (.inr (.inr (.inr (fun j => (P k i j).map ((Kg K).2.2 k2))))))) (hty : (wTy (Kg K))[t0]? = some (cA, .object Cn)) (hN : Nat.blt N 5000 = true) (hp : pc + 1 = pc') (kk : G K z I P O c n pc' L (va_rf (o.map ((Kg K).2.2 k2)) :: S)) : G K z I P O c n pc L (.int j :: .ref ((Kg K).2.2 k i) :: S) := by
  subst hp
  subst hj
  subst hq
  have hN : N < 5000 := Nat.le_of_ble_eq_true hN
  obtain ⟨p, l, e, R, s, m, args, below, meth, cd, Q, g, A⟩ := K
  obtain ⟨hx, hb, -, -, hown, hts, -, hK, -, hA⟩ := C
  intro H locs ls hH hS hl hcat
  have hP := cl_one (hH.1 k i hal)
  rw [show wE g (I k i) (P k i) O k i = _ from he] at hP
  have kk := kk H locs ls hH hS hl hcat
  rw [← nI_clamp (n := t) (by omega)] at kk
  exact va_aldq hx hb hK hP 0 t0 rfl hty (vp_in_nI ht (by omega)) d kk
theorem wQ_up {ad : Nat → Nat} {f : Nat → Option Nat} {t : Nat} {v : Option Nat} : (fun j => (va_up f t v j).map ad) = va_up (fun j => (f j).map ad) t (v.map ad) := by
  funext j
  unfold va_up
  split <;> rfl
theorem g_aast (C : Cx K cc own nL ret rm z) {k i N k2 t0 ci v : Nat} {j : Int32} {r : vw_C} {vs : List Value} {cA : ClassId} (t : Nat) (hj : j = nI t) (ht : t < N) (d : decode cc pc = .ok (.aastore, 1)) (hal : wAl z k i) (halv : wAl z k2 v) (he : ∀ q, wE (Kg K) (I k i) q O k i = .inl (cA, N, .inr (.inr (.inr (.inr (fun j => (q j).map ((Kg K).2.2 k2))))))) (hev : wE (Kg K) (I k2 v) (P k2 v) O k2 v = .inr (ci, vs)) (hc : vwCl[ci]? = some r) (hty : (wTy (Kg K))[t0]? = some (cA, .object r.1)) (hN : Nat.blt N 5000 = true) (hp : pc + 1 = pc') (kk : G K z I (upP P k i t (some v)) O c n pc' L S) : G K z I P O c n pc L (.ref ((Kg K).2.2 k2 v) :: .int j :: .ref ((Kg K).2.2 k i) :: S) := by
  subst hp
  subst hj
  have hN : N < 5000 := Nat.le_of_ble_eq_true hN
  obtain ⟨p, l, e, R, s, m, args, below, meth, cd, Q, g, A⟩ := K
  obtain ⟨hx, hb, -, -, hown, hts, -, hK, -, hA⟩ := C
  intro H locs ls hH hS hl hcat
  have hP := hH.1 k i hal
  rw [show wE g (I k i) (P k i) O k i = _ from he _] at hP
  have hV := hH.1 k2 v halv
  rw [show wE g (I k2 v) (P k2 v) O k2 v = _ from hev] at hV
  refine cl_aast hx hb hK t0 ci hP hty hV hc (vp_in_nI ht (by omega)) d (fun H1 q h1 hz oq => ?_)
  refine kk H1 _ ls (hH.put hal (fun _ _ _ => rfl) (fun a b h => upP_off P _ h) (fun _ _ _ _ => rfl) ?_ oq) (hS.put hz oq (hA k i hal)) hl hcat
  rw [upP_row, show wE g (I k i) (va_up (P k i) t (some v)) O k i = _ from he _, wQ_up]
  rw [nI_clamp (n := t) (by omega)] at h1
  exact h1
theorem g_aastN (C : Cx K cc own nL ret rm z) {k i N k2 t0 : Nat} {j : Int32} {Cn : String} {cA : ClassId} (t : Nat) (hj : j = nI t) (ht : t < N) (d : decode cc pc = .ok (.aastore, 1)) (hal : wAl z k i) (he : ∀ q, wE (Kg K) (I k i) q O k i = .inl (cA, N, .inr (.inr (.inr (.inr (fun j => (q j).map ((Kg K).2.2 k2))))))) (hty : (wTy (Kg K))[t0]? = some (cA, .object Cn)) (hN : Nat.blt N 5000 = true) (hp : pc + 1 = pc') (kk : G K z I (upP P k i t none) O c n pc' L S) : G K z I P O c n pc L (.null :: .int j :: .ref ((Kg K).2.2 k i) :: S) := by
  subst hp
  subst hj
  have hN : N < 5000 := Nat.le_of_ble_eq_true hN
  obtain ⟨p, l, e, R, s, m, args, below, meth, cd, Q, g, A⟩ := K
  obtain ⟨hx, hb, -, -, hown, hts, -, hK, -, hA⟩ := C
  intro H locs ls hH hS hl hcat
  have hP := hH.1 k i hal
  rw [show wE g (I k i) (P k i) O k i = _ from he _] at hP
  refine cl_aastN hx hb hK t0 hP hty (vp_in_nI ht (by omega)) d (fun H1 q h1 hz oq => ?_)
  refine kk H1 _ ls (hH.put hal (fun _ _ _ => rfl) (fun a b h => upP_off P _ h) (fun _ _ _ _ => rfl) ?_ oq) (hS.put hz oq (hA k i hal)) hl hcat
  rw [upP_row, show wE g (I k i) (va_up (P k i) t none) O k i = _ from he _, wQ_up]
  rw [nI_clamp (n := t) (by omega)] at h1
  exact h1
theorem g_alen (C : Cx K cc own nL ret rm z) {k i t0 : Nat} {cA : ClassId} {x : vp_A} {ty : FieldType} {v : Int32} (d : decode cc pc = .ok (.arraylength, 1)) (hal : wAl z k i) (he : wE (Kg K) (I k i) (P k i) O k i = .inl (cA, x)) (hty : (wTy (Kg K))[t0]? = some (cA, ty)) (hv : Int32.ofNat x.1 = v) (hp : pc + 1 = pc') (kk : G K z I P O c n pc' L (.int v :: S)) : G K z I P O c n pc L (.ref ((Kg K).2.2 k i) :: S) := by
  subst hp
  obtain ⟨p, l, e, R, s, m, args, below, meth, cd, Q, g, A⟩ := K
  obtain ⟨hx, hb, -, -, hown, hts, -, hK, -, hA⟩ := C
  intro H locs ls hH hS hl hcat
  have hP := cl_one (hH.1 k i hal)
  rw [show wE g (I k i) (P k i) O k i = _ from he] at hP
  exact va_alen hx hb hK hP 0 t0 rfl hty hv d (kk H locs ls hH hS hl hcat)
theorem g_acmp_ne2 (C : Cx K cc own nL ret rm z) {k i j : Nat} {off : Int} {tgt : Nat} (hi : wAl z k i) (hj : wAl z k j) (d : decode cc pc = .ok (.if_acmp .ne off, 3)) (ht : (pc : Int) + off = (tgt : Int)) (hp : pc + 3 = pc') (kt : ¬ i = j → G K z I P O c n tgt L S) (kf : i = j → G K z I P O c n pc' L S) : G K z I P O c n pc L (.ref ((Kg K).2.2 k j) :: .ref ((Kg K).2.2 k i) :: S) := by
  subst hp
  obtain ⟨p, l, e, R, s, m, args, below, meth, cd, Q, g, A⟩ := K
  intro H locs ls hH hS hl hc
  refine lv_acmp_ne (rx := some (g.2.2 k i)) (ry := some (g.2.2 k j)) C.1 C.2.1 d ht (fun h => kt (fun q => h (by rw [q])) H locs ls hH hS hl hc) (fun h => kf (hH.2 k i k j hi hj (Option.some.inj h)).2 H locs ls hH hS hl hc)
theorem g_acmp_eq2 (C : Cx K cc own nL ret rm z) {k i j : Nat} {off : Int} {tgt : Nat} (hi : wAl z k i) (hj : wAl z k j) (d : decode cc pc = .ok (.if_acmp .eq off, 3)) (ht : (pc : Int) + off = (tgt : Int)) (hp : pc + 3 = pc') (kt : i = j → G K z I P O c n tgt L S) (kf : ¬ i = j → G K z I P O c n pc' L S) : G K z I P O c n pc L (.ref ((Kg K).2.2 k j) :: .ref ((Kg K).2.2 k i) :: S) := by
  subst hp
  obtain ⟨p, l, e, R, s, m, args, below, meth, cd, Q, g, A⟩ := K
  intro H locs ls hH hS hl hc
  refine lv_acmp_eq (rx := some (g.2.2 k i)) (ry := some (g.2.2 k j)) C.1 C.2.1 d ht (fun h => kt (hH.2 k i k j hi hj (Option.some.inj h)).2 H locs ls hH hS hl hc) (fun h => kf (fun q => h (by rw [q])) H locs ls hH hS hl hc)
/-- the end of a method that makes nothing -/
def rQ (g : wG) (z : wZ) (O : wO) (post : Option Value → wI → wP → Prop) : Array Value → State → Outcome → State → Prop := fun _ st oc t => (∃ (v : Option Value) (I' : wI) (P' : wP), oc = .returned v ∧ post v I' P' ∧ wHd g z I' P' O t.heap) ∧ va_F (wA g z) st t
def Rx : wK → wZ → wO → (Option Value → wI → wP → Prop) → Prop
  | (p, l, e, R, s, m, args, below, meth, cd, Q, g, A), z, O, post => Q = MQ below (rQ g z O post) args s 0 0 (wA g z) ∧ A = wA g z
def RT (l : Launch) (y : MethodName) (bc : ByteArray) (mxl : Nat) (ret : Option FieldType) (rm : Room) (g : wG) (z : wZ) (args : List Value) (I : wI) (P : wP) (O : wO) (post : Option Value → wI → wP → Prop) : Prop := Met l y (.code y bc mxl ret :: wAll) rm (va_Pc args (fun U => wHd g z I P O U.heap ∧ va_K g.1 vwCl (wTy g) U)) (rQ g z O post) 0 0 (wA g z)
theorem RT.of {l : Launch} {y : MethodName} {bc : ByteArray} {mxl : Nat} {ret : Option FieldType} {rm : Room} {g : wG} {z : wZ} {args : List Value} {I : wI} {P : wP} {O : wO} {post : Option Value → wI → wP → Prop} {own : String} (ho : y.cls = own) (hy : plainName y.cls = true) (hn : (lg_sl args).length ≤ mxl) (hcat : ∀ q ∈ lv_args 0 args, q.2.category = 1)
    (walk : ∀ K : wK, Cx K bc own mxl ret rm z → Kl K = l → Kg K = g → Rx K z O post → G K z I P O 0 0 0 (lv_args 0 args) []) : RT l y bc mxl ret rm g z args I P O post := by
  refine Met.ofW (cc := bc) (maxL := mxl) (ret := ret) hy rfl ?_
  intro p e s m av below meth c s₁ B hml hv
  obtain ⟨rfl, hH, hK⟩ := hv
  rw [lg_entry_eq]
  have hts := atoms_spec (ws := .code y bc mxl ret :: wAll) B.pre
  have hl := lv_entry args hn
  refine walk (p, l, e, rm, s, m, args.toArray, below, meth, c, MQ below (rQ g z O post) args.toArray s 0 0 (wA g z), g, wA g z) ⟨B.exec, B.bytes, B.returns, hml, ?_, fun w hw => hts w (List.mem_cons_of_mem _ hw), B.notSynchronized, hK, rfl, fun k i h => ⟨k, i, h, rfl⟩⟩ rfl rfl ⟨rfl, rfl⟩ s.heap [] _ hH va_S.rf ?_ hcat
  · rw [← ho]; exact findClass_of_methodNamed B.named
  · rw [hml]; exact hl
theorem g_iret {post : Option Value → wI → wP → Prop} {v : Int32} (C : Cx K cc own nL (some .int) rm z) (hR : Rx K z O post) (d : decode cc pc = .ok (.ireturn, 1)) (hq : post (some (.int v)) I P) : G K z I P O 0 0 pc L [.int v] := by
  obtain ⟨p, l, e, R, s, m, args, below, meth, cd, Q, g, A⟩ := K
  obtain ⟨rfl, rfl⟩ := hR
  obtain ⟨hx, hb, hr, -, hown, hts, hlk, hK, -, hA⟩ := C
  intro H locs ls hH hS hl hc
  exact W.iret hx hb hr (fun t ht hW => ⟨⟨_, I, P, rfl, hq, by rw [ht]; exact hH⟩, hS.F ht⟩) hS.2.2 d hlk
theorem g_zret {post : Option Value → wI → wP → Prop} {v : Int32} (C : Cx K cc own nL (some .boolean) rm z) (hR : Rx K z O post) (d : decode cc pc = .ok (.ireturn, 1)) (hv : narrow .boolean (.int v) = .int v) (hq : post (some (.int v)) I P) : G K z I P O 0 0 pc L [.int v] := by
  obtain ⟨p, l, e, R, s, m, args, below, meth, cd, Q, g, A⟩ := K
  obtain ⟨rfl, rfl⟩ := hR
  obtain ⟨hx, hb, hr, -, hown, hts, hlk, hK, -, hA⟩ := C
  intro H locs ls hH hS hl hc
  exact W.zret hx hb hr hv (fun t ht hW => ⟨⟨_, I, P, rfl, hq, by rw [ht]; exact hH⟩, hS.F ht⟩) hS.2.2 d hlk
theorem g_aret {post : Option Value → wI → wP → Prop} {v : Value} {nm : String} (C : Cx K cc own nL (some (.object nm)) rm z) (hR : Rx K z O post) (d : decode cc pc = .ok (.areturn, 1)) (hv : v = .null ∨ ∃ a, v = .ref a) (hq : post (some v) I P) : G K z I P O 0 0 pc L [v] := by
  obtain ⟨p, l, e, R, s, m, args, below, meth, cd, Q, g, A⟩ := K
  obtain ⟨rfl, rfl⟩ := hR
  obtain ⟨hx, hb, hr, -, hown, hts, hlk, hK, -, hA⟩ := C
  intro H locs ls hH hS hl hc
  exact W.aret hx hb hr (Or.inl ⟨_, rfl⟩) hv (fun t ht hW => ⟨⟨_, I, P, rfl, hq, by rw [ht]; exact hH⟩, hS.F ht⟩) hS.2.2 d hlk
theorem g_vret {post : Option Value → wI → wP → Prop} (C : Cx K cc own nL none rm z) (hR : Rx K z O post) (d : decode cc pc = .ok (.return_, 1)) (hq : post none I P) : G K z I P O 0 0 pc L [] := by
  obtain ⟨p, l, e, R, s, m, args, below, meth, cd, Q, g, A⟩ := K
  obtain ⟨rfl, rfl⟩ := hR
  obtain ⟨hx, hb, hr, -, hown, hts, hlk, hK, -, hA⟩ := C
  intro H locs ls hH hS hl hc
  exact W.vret hx hb hr (fun t ht hW => ⟨⟨_, I, P, rfl, hq, by rw [ht]; exact hH⟩, hS.F ht⟩) hS.2.2 d hlk
theorem wV_good {own Cn : String} {index mxl : Nat} {y : MethodName} {bc : ByteArray} {rt : Option FieldType} (h : wV own index Cn y bc mxl rt) : GoodIn wAll (wsV own index Cn y (.code y bc mxl rt :: wAll)) := by
  obtain ⟨h1, h2, h3, h4, h5⟩ := h
  intro w hw
  have hm : w ∈ wAll := by
    unfold wsV at hw
    simp only [List.cons_append, List.nil_append, List.mem_cons] at hw
    rcases hw with rfl | rfl | rfl | rfl | rfl | hw
    · exact h1
    · exact h2
    · exact h3
    · exact h4
    · exact h5
    · exact hw
  exact wAll_self w hm
theorem wS_good {own : String} {index mxl : Nat} {y : MethodName} {bc : ByteArray} {rt : Option FieldType} (h : wS own index y bc mxl rt) : GoodIn wAll (va_wsS own index y (.code y bc mxl rt :: wAll)) := by
  obtain ⟨h1, h2, h3, h5⟩ := h
  intro w hw
  have hm : w ∈ wAll := by
    unfold va_wsS at hw
    simp only [List.cons_append, List.nil_append, List.mem_cons] at hw
    rcases hw with rfl | rfl | rfl | rfl | hw
    · exact h1
    · exact h2
    · exact h3
    · exact h5
    · exact hw
  exact wAll_self w hm
theorem wBlind {g : wG} {z : wZ} {I : wI} {P : wP} {O : wO} {args : List Value} : FrameBlind (va_Pc args (fun U => wHd g z I P O U.heap ∧ va_K g.1 vwCl (wTy g) U)) := fun a U f mk q => by
  obtain ⟨q0, q1, q2⟩ := q
  exact ⟨q0, q1, va_K.moved (u := U) (U := U.calling f mk a) (Vm.Alike.refl U.vm) q2⟩
theorem wA_in {g : wG} {z : wZ} {A : Nat → Prop} (hA : ∀ k i, wAl z k i → A (g.2.2 k i)) : ∀ q, wA g z q → A q := fun q h => by
  obtain ⟨k, i, h1, rfl⟩ := h
  exact hA k i h1
theorem g_run {p : Program} {l : Launch} {e : Env} {R : Room} {s : State} {m : MethodId} {args : Array Value} {below : List Frame} {meth : Method} {cd : Code} {H : Heap} {locs : List Loc} {cells slots : Nat} {Q : State → Prop} {g : wG} {A : Nat → Prop} {z : wZ} {O : wO} {ls : Array Slot} {a : Array Value} {st0 rest : List Value} {pc : Nat} {L : List (Nat × Value)} {post : Option Value → wI → wP → Prop} (hr : va_Run p l e R s m args below meth cd H locs cells slots 0 0 (F0 m pc ls st0) rest (rQ g z O post a) (wA g z)) (hS : va_S A s.heap H locs) (hA : ∀ q, wA g z q → A q) (hl : lv_has ls cd.maxLocals L) (hc : ∀ q ∈ L, q.2.category = 1)
    (kk : ∀ v I' P', post v I' P' → G (p, l, e, R, s, m, args, below, meth, cd, Q, g, A) z I' P' O cells slots (pc + 3) L (v.toList ++ rest)) : W p l e R s m args below meth cd H locs cells slots Q (F0 m pc ls st0) := by
  intro T hT X
  obtain ⟨v, st₀, t, T', L1, h0, X', hL, e1, e2, ⟨⟨v', I', P', hv, hpost, hHd⟩, hz, hk⟩, st⟩ := hr T hT X
  cases hv
  rw [h0] at hz hk
  obtain ⟨t2, a1, b1⟩ := kk v I' P' hpost T'.heap (locs ++ L1) ls (by rw [e1]; exact hHd) ⟨Nat.le_trans hS.1 (by rw [e1]; exact hz), fun q h1 h2 => by
      rw [e1, hk q (Nat.lt_of_lt_of_le h1 hS.1) (fun zz => h2 (hA q zz))]; exact hS.2.1 q h1 h2, fun q hq => by
      rcases List.mem_append.mp hq with h | h
      · exact hS.2.2 q h
      · exact hA _ (hL q h)⟩ hl hc T' rfl X'
  exact ⟨t2, st t2 a1, b1⟩
theorem g_callV (C : Cx K cc own nL ret rm z) {index mxl k i ci N : Nat} {y : MethodName} {bc : ByteArray} {rt : Option FieldType} {rmy : Room} {As S0 : List Value} {fs : List Value} {Cn : String} {T : u_T} {post : Option Value → wI → wP → Prop} (hw : wV own index Cn y bc mxl rt) (hM : RT (Kl K) y bc mxl rt rmy (Kg K) z (.ref ((Kg K).2.2 k i) :: As) I P O post) (d : decode cc pc = .ok (.invokevirtual index, 3)) (hal : wAl z k i) (he : wE (Kg K) (I k i) (P k i) O k i = .inr (ci, fs)) (hc : vwCl[ci]? = some (Cn, T, N))
    (hd : y.cls = Cn ∧ y.cls ≠ "java/lang/invoke/MethodHandle" ∧ y.cls ≠ "java/lang/invoke/VarHandle" ∧ (parseMethodDescriptor y.desc).map (fun d => d.parameters.length) = some As.length) (hroom : (rmy.frames + 1 ≤ rm.frames ∧ 8 + (mxl + 11) + rmy.locals ≤ rm.locals) ∧ rmy.cells = 0 ∧ rmy.slots = 0) (hS0 : S0 = As.reverse ++ .ref ((Kg K).2.2 k i) :: S) (hcat : (S.map fun v => v.category).sum ≤ 8) (hf : c ≤ rm.cells ∧ n ≤ rm.slots) (hp : pc + 3 = pc') (kk : ∀ v I' P', post v I' P' → G K z I' P' O c n pc' L (v.toList ++ S)) : G K z I P O c n pc L S0 := by
  subst hp
  subst hS0
  obtain ⟨p, l, e, R, s, m, args, below, meth, cd, Q, g, A⟩ := K
  obtain ⟨hx, hb, hr, hml, hown, hts, hlk, hK, rfl, hA⟩ := C
  intro H locs ls hH hS hl hcc
  have hP := cl_one (hH.1 k i hal)
  rw [show wE g (I k i) (P k i) O k i = _ from he] at hP
  refine g_run (va_runV (As := As) (rest := S) (nL := nL) ⟨hx, hb, hml, hown, hts⟩ hM (cwV As.length hts (wV_good hw) rfl hroom.2.1 hroom.2.2 hd hroom.1) ⟨wBlind, va_recv hK hP (ci := ci) (q0 := 0) hc rfl, fun U hU hW => ⟨rfl, by rw [hU]; exact hH, va_K.moved hW.alike hK⟩⟩ rfl rfl (hl.1.trans hml) rfl (lv_room hcat) d ⟨hf.1, hf.2⟩) hS (wA_in hA) hl hcc kk
theorem g_callS (C : Cx K cc own nL ret rm z) {index mxl : Nat} {y : MethodName} {bc : ByteArray} {rt : Option FieldType} {rmy : Room} {As S0 : List Value} {post : Option Value → wI → wP → Prop} (hw : wS own index y bc mxl rt) (hM : RT (Kl K) y bc mxl rt rmy (Kg K) z As I P O post) (d : decode cc pc = .ok (.invokestatic index, 3))
    (hd : y.cls = own ∧ y.cls ≠ "java/lang/invoke/MethodHandle" ∧ y.cls ≠ "java/lang/invoke/VarHandle" ∧ (parseMethodDescriptor y.desc).map (fun d => d.parameters.length) = some As.length) (hroom : (rmy.frames + 1 ≤ rm.frames ∧ 8 + (mxl + 11) + rmy.locals ≤ rm.locals) ∧ rmy.cells = 0 ∧ rmy.slots = 0) (hS0 : S0 = As.reverse ++ S) (hcat : (S.map fun v => v.category).sum ≤ 8) (hf : c ≤ rm.cells ∧ n ≤ rm.slots) (hp : pc + 3 = pc') (kk : ∀ v I' P', post v I' P' → G K z I' P' O c n pc' L (v.toList ++ S)) : G K z I P O c n pc L S0 := by
  subst hp
  subst hS0
  obtain ⟨p, l, e, R, s, m, args, below, meth, cd, Q, g, A⟩ := K
  obtain ⟨hx, hb, hr, hml, hown, hts, hlk, hK, rfl, hA⟩ := C
  intro H locs ls hH hS hl hcc
  refine g_run (va_runS (As := As) (rest := S) (nL := nL) ⟨hx, hb, hml, hown, hts⟩ hM (va_cwS As.length hts (wS_good hw) rfl hroom.2.1 hroom.2.2 hd.2 hroom.1) ⟨wBlind, fun U hU hW => ⟨rfl, by rw [hU]; exact hH, va_K.moved hW.alike hK⟩⟩ rfl rfl (hl.1.trans hml) rfl (lv_room hcat) d ⟨hf.1, hf.2⟩) hS (wA_in hA) hl hcc kk

end WRows2
end
