section WInits
theorem ac_int : Cond.arrayClass .int ∈ wAll := wAll_i 64 (by decide +kernel) (by decide +kernel)
theorem ac_bool : Cond.arrayClass .boolean ∈ wAll := wAll_i 63 (by decide +kernel) (by decide +kernel)
theorem cl_X3_9 : Cond.classLink RX3 9 RX1 ∈ wAll := wAll_i 33 (by decide +kernel) (by decide +kernel)
theorem cl_X3_19 : Cond.classLink RX3 19 RX2 ∈ wAll := wAll_i 35 (by decide +kernel) (by decide +kernel)
theorem cl_X3_25 : Cond.classLink RX3 25 RX0 ∈ wAll := wAll_i 37 (by decide +kernel) (by decide +kernel)
theorem cl_X1_22 : Cond.classLink RX1 22 RX2 ∈ wAll := wAll_i 44 (by decide +kernel) (by decide +kernel)
theorem cl_L_11 : Cond.classLink RL 11 RX3 ∈ wAll := wAll_i 25 (by decide +kernel) (by decide +kernel)
theorem is_X0 : Cond.instantiable RX0 10 ∈ wAll := wAll_i 371 (by decide +kernel) (by decide +kernel)
theorem ni_X0 : Cond.initialized RX0 ∈ wAll := wAll_i 24 (by decide +kernel) (by decide +kernel)
theorem im_X0 : Cond.instanceMethod yX0_init ∈ wAll := wAll_i 373 (by decide +kernel) (by decide +kernel)
theorem co_X0 : Cond.code yX0_init cX0_init 4 none ∈ wAll := wAll_i 374 (by decide +kernel) (by decide +kernel)
theorem mo_X0 : Cond.methodLink RX0 3 objectInit ∈ wAll := wAll_i 375 (by decide +kernel) (by decide +kernel)
theorem is_X1 : Cond.instantiable RX1 5 ∈ wAll := wAll_i 39 (by decide +kernel) (by decide +kernel)
theorem ni_X1 : Cond.initialized RX1 ∈ wAll := wAll_i 16 (by decide +kernel) (by decide +kernel)
theorem im_X1 : Cond.instanceMethod yX1_init ∈ wAll := wAll_i 41 (by decide +kernel) (by decide +kernel)
theorem co_X1 : Cond.code yX1_init cX1_init 1 none ∈ wAll := wAll_i 42 (by decide +kernel) (by decide +kernel)
theorem mo_X1 : Cond.methodLink RX1 3 objectInit ∈ wAll := wAll_i 43 (by decide +kernel) (by decide +kernel)
theorem is_X2 : Cond.instantiable RX2 8 ∈ wAll := wAll_i 212 (by decide +kernel) (by decide +kernel)
theorem ni_X2 : Cond.initialized RX2 ∈ wAll := wAll_i 23 (by decide +kernel) (by decide +kernel)
theorem im_X2 : Cond.instanceMethod yX2_init ∈ wAll := wAll_i 214 (by decide +kernel) (by decide +kernel)
theorem co_X2 : Cond.code yX2_init cX2_init 7 none ∈ wAll := wAll_i 215 (by decide +kernel) (by decide +kernel)
theorem mo_X2 : Cond.methodLink RX2 3 objectInit ∈ wAll := wAll_i 216 (by decide +kernel) (by decide +kernel)
theorem is_X3 : Cond.instantiable RX3 7 ∈ wAll := wAll_i 26 (by decide +kernel) (by decide +kernel)
theorem ni_X3 : Cond.initialized RX3 ∈ wAll := wAll_i 15 (by decide +kernel) (by decide +kernel)
theorem im_X3 : Cond.instanceMethod yX3_init ∈ wAll := wAll_i 28 (by decide +kernel) (by decide +kernel)
theorem co_X3 : Cond.code yX3_init cX3_init 2 none ∈ wAll := wAll_i 29 (by decide +kernel) (by decide +kernel)
theorem mo_X3 : Cond.methodLink RX3 1 objectInit ∈ wAll := wAll_i 30 (by decide +kernel) (by decide +kernel)
theorem io_ : Cond.instanceMethod objectInit ∈ wAll := wAll_i 31 (by decide +kernel) (by decide +kernel)
theorem oc_ : Cond.code objectInit ⟨#[0xb1]⟩ 1 none ∈ wAll := wAll_i 32 (by decide +kernel) (by decide +kernel)
theorem ml_X3_82 : Cond.methodLink RX3 82 yX2_init ∈ wAll := wAll_i 213 (by decide +kernel) (by decide +kernel)
theorem ml_X3_141 : Cond.methodLink RX3 141 yX0_init ∈ wAll := wAll_i 372 (by decide +kernel) (by decide +kernel)
theorem ml_L_114 : Cond.methodLink RL 114 yX3_init ∈ wAll := wAll_i 27 (by decide +kernel) (by decide +kernel)
theorem ty_eq {D : va_G} {cl : List vw_C} {tys : List (ClassId × FieldType)} {cA c0 : ClassId} {ty : FieldType} {s : State} (h : va_K D cl (tys ++ [(cA, ty)]) s) (k : Nat) (hk : tys[k]? = some (c0, ty)) : cA = c0 := by
  have hl : k < tys.length := (List.getElem?_eq_some_iff.mp hk).1
  have h1 := (h.2 k (c0, ty) (by rw [List.getElem?_append_left hl]; exact hk)).2
  have h2 := (h.2 tys.length (cA, ty) (by rw [List.getElem?_append_right (Nat.le_refl _), Nat.sub_self]; rfl)).2
  have key : ∀ c, va_RA s c ty → s.vm.findClass ("[" ++ ty.toString) = some c := fun c hc => by
    cases ty with
    | object C => obtain ⟨kA, comp, -, -, -, e⟩ := hc; exact e
    | _ => exact hc
  exact Option.some.inj ((key _ h2).symm.trans (key _ h1))
def xNest : Cond := .methodLinkNest RX3 41 yX1_init RX3
set_option maxHeartbeats 4000000 in
set_option maxRecDepth 100000 in
theorem c_X2_init (l : Launch) (g : wG) (h0 sz : Nat) (x1 x2 x3 x4 x5 x6 : Int32) : Met l yX2_init (.code yX2_init cX2_init 7 none :: wAll) ({ frames := 1, cells := 0, slots := 0, locals := 12 }) (va_Pc [.ref h0, .int x1, .int x2, .int x3, .int x4, .int x5, .int x6] (fun U => U.heap.size = sz ∧ va_P g.1 vwCl [(h0, .inr (2, [.int 0, .int 0, .int 0, .int 0, .int 0, .int 0, .int 0, .int 0]))] U.heap ∧ va_K g.1 vwCl (wTy g) U ∧ va_D (fun _ => True) [(h0, .inr (2, [.int 0, .int 0, .int 0, .int 0, .int 0, .int 0, .int 0, .int 0]))])) (va_Qv (fun _ : Nat → Nat => True) (fun u t => va_P g.1 vwCl [(h0, .inr (2, [.int x1, .int x2, .int x3, .int x4, .int x5, .int 0, .int 0, .int x6]))] t.heap ∧ va_D (va_A [(h0, .inr (2, [.int 0, .int 0, .int 0, .int 0, .int 0, .int 0, .int 0, .int 0]))] sz) [(h0, .inr (2, [.int x1, .int x2, .int x3, .int x4, .int x5, .int 0, .int 0, .int x6]))]) (va_A [(h0, .inr (2, [.int 0, .int 0, .int 0, .int 0, .int 0, .int 0, .int 0, .int 0]))] sz)) 0 0 (va_A [(h0, .inr (2, [.int 0, .int 0, .int 0, .int 0, .int 0, .int 0, .int 0, .int 0]))] sz) := by
  refine Met.ofW (cc := cX2_init) (maxL := 7) (ret := none) (by decide) rfl ?_
  intro p e s m args below meth c s₁ B hml hv
  obtain ⟨rfl, hsz, hP, hK, hD0⟩ := hv
  have hx := B.exec
  have hb := B.bytes
  have hr := B.returns
  have hts0 := atoms_spec (ws := .code yX2_init cX2_init 7 none :: wAll) B.pre
  have hts := fun w (hw : w ∈ wAll) => hts0 w (List.mem_cons_of_mem _ hw)
  have hown : s.vm.findClass RX2 = some m.cls := findClass_of_methodNamed B.named
  have hlocks := B.notSynchronized
  have hin : meth.name = "<init>" := (name_of_methodNamed B.named B.method).1
  subst hsz
  have hD := hD0.self (sz := s.heap.size)
  generalize hAe : va_A [(h0, .inr (2, [.int 0, .int 0, .int 0, .int 0, .int 0, .int 0, .int 0, .int 0]))] s.heap.size = A at hD ⊢
  have hA : ∀ q : Nat, s.heap.size ≤ q → A q := fun q h => by rw [← hAe]; exact Or.inr h
  have hS : va_S A s.heap s.heap [] := va_S.rf
  have hl := lv_entry ([.ref h0, .int x1, .int x2, .int x3, .int x4, .int x5, .int x6]) (n := 7) (Nat.le_of_ble_eq_true rfl)
  rw [lg_entry_eq]
  generalize (lg_sl ([.ref h0, .int x1, .int x2, .int x3, .int x4, .int x5, .int x6]) ++ List.replicate (7 - (lg_sl ([.ref h0, .int x1, .int x2, .int x3, .int x4, .int x5, .int x6])).length) Slot.unset).toArray = ls at hl ⊢
  have hl : lv_has ls 7 [(0, .ref h0), (1, .int x1), (2, .int x2), (3, .int x3), (4, .int x4), (5, .int x5), (6, .int x6)] := hl
  have hP : va_P g.1 vwCl [(h0, .inr (2, [.int 0, .int 0, .int 0, .int 0, .int 0, .int 0, .int 0, .int 0]))] s.heap := hP
  refine lv_aload_n hx hb dX2_init_0 rfl (lv_at hl 0 rfl) ?_
  refine W.objInit hx hb hown (hts _ mo_X2) (hts _ io_) (hts _ oc_) rfl (by rw [hml]; exact hl.1) rfl dX2_init_1 (Nat.le_of_ble_eq_true rfl) (Nat.le_of_ble_eq_true rfl) ?_
  refine W.eq (g2 := F0 m 4 ls []) rfl ?_
  refine lv_aload_n hx hb dX2_init_4 rfl (lv_at hl 0 rfl) ?_
  refine lv_iconst (v := 0) hx hb dX2_init_5 (by decide) ?_
  refine va_put (C := RX2) (T := TX2) (N := 8) hx hb hts iX2 tyX2 tyX2_ok nmX2 hown hK hP hD hS 0 rfl rfl 5 (Nat.le_of_ble_eq_true rfl) (hts _ fl_X2_9) (fun _ h => h) rfl (ty := .int) (tyX2_ok 5 (by decide)) rfl rfl (Nat.le_of_ble_eq_true rfl) dX2_init_6 (fun H locs hP hD hS => ?_)
  have hP : va_P g.1 vwCl [(h0, .inr (2, [.int 0, .int 0, .int 0, .int 0, .int 0, .int 0, .int 0, .int 0]))] H := hP
  have hD : va_D A [(h0, .inr (2, [.int 0, .int 0, .int 0, .int 0, .int 0, .int 0, .int 0, .int 0]))] := hD
  refine lv_aload_n hx hb dX2_init_9 rfl (lv_at hl 0 rfl) ?_
  refine lv_iconst (v := 0) hx hb dX2_init_10 (by decide) ?_
  refine va_put (C := RX2) (T := TX2) (N := 8) hx hb hts iX2 tyX2 tyX2_ok nmX2 hown hK hP hD hS 0 rfl rfl 6 (Nat.le_of_ble_eq_true rfl) (hts _ fl_X2_15) (fun _ h => h) rfl (ty := .int) (tyX2_ok 6 (by decide)) rfl rfl (Nat.le_of_ble_eq_true rfl) dX2_init_11 (fun H locs hP hD hS => ?_)
  have hP : va_P g.1 vwCl [(h0, .inr (2, [.int 0, .int 0, .int 0, .int 0, .int 0, .int 0, .int 0, .int 0]))] H := hP
  have hD : va_D A [(h0, .inr (2, [.int 0, .int 0, .int 0, .int 0, .int 0, .int 0, .int 0, .int 0]))] := hD
  refine lv_aload_n hx hb dX2_init_14 rfl (lv_at hl 0 rfl) ?_
  refine lv_iload_n hx hb dX2_init_15 rfl (lv_at hl 1 rfl) ?_
  refine va_putF (C := RX2) (T := TX2) (N := 8) hx hb hts iX2 tyX2 tyX2_ok nmX2 hown hK hP hD hS 0 rfl rfl 0 (Nat.le_of_ble_eq_true rfl) (hts _ fl_X2_18) (fun _ h => h) rfl hin rfl (ty := .int) (tyX2_ok 0 (by decide)) rfl rfl (Nat.le_of_ble_eq_true rfl) dX2_init_16 (fun H locs hP hD hS => ?_)
  have hP : va_P g.1 vwCl [(h0, .inr (2, [.int x1, .int 0, .int 0, .int 0, .int 0, .int 0, .int 0, .int 0]))] H := hP
  have hD : va_D A [(h0, .inr (2, [.int x1, .int 0, .int 0, .int 0, .int 0, .int 0, .int 0, .int 0]))] := hD
  refine lv_aload_n hx hb dX2_init_19 rfl (lv_at hl 0 rfl) ?_
  refine lv_iload_n hx hb dX2_init_20 rfl (lv_at hl 2 rfl) ?_
  refine va_putF (C := RX2) (T := TX2) (N := 8) hx hb hts iX2 tyX2 tyX2_ok nmX2 hown hK hP hD hS 0 rfl rfl 1 (Nat.le_of_ble_eq_true rfl) (hts _ fl_X2_21) (fun _ h => h) rfl hin rfl (ty := .int) (tyX2_ok 1 (by decide)) rfl rfl (Nat.le_of_ble_eq_true rfl) dX2_init_21 (fun H locs hP hD hS => ?_)
  have hP : va_P g.1 vwCl [(h0, .inr (2, [.int x1, .int x2, .int 0, .int 0, .int 0, .int 0, .int 0, .int 0]))] H := hP
  have hD : va_D A [(h0, .inr (2, [.int x1, .int x2, .int 0, .int 0, .int 0, .int 0, .int 0, .int 0]))] := hD
  refine lv_aload_n hx hb dX2_init_24 rfl (lv_at hl 0 rfl) ?_
  refine lv_iload_n hx hb dX2_init_25 rfl (lv_at hl 3 rfl) ?_
  refine va_putF (C := RX2) (T := TX2) (N := 8) hx hb hts iX2 tyX2 tyX2_ok nmX2 hown hK hP hD hS 0 rfl rfl 2 (Nat.le_of_ble_eq_true rfl) (hts _ fl_X2_24) (fun _ h => h) rfl hin rfl (ty := .int) (tyX2_ok 2 (by decide)) rfl rfl (Nat.le_of_ble_eq_true rfl) dX2_init_26 (fun H locs hP hD hS => ?_)
  have hP : va_P g.1 vwCl [(h0, .inr (2, [.int x1, .int x2, .int x3, .int 0, .int 0, .int 0, .int 0, .int 0]))] H := hP
  have hD : va_D A [(h0, .inr (2, [.int x1, .int x2, .int x3, .int 0, .int 0, .int 0, .int 0, .int 0]))] := hD
  refine lv_aload_n hx hb dX2_init_29 rfl (lv_at hl 0 rfl) ?_
  refine lv_iload hx hb dX2_init_30 (lv_at hl 4 rfl) ?_
  refine va_putF (C := RX2) (T := TX2) (N := 8) hx hb hts iX2 tyX2 tyX2_ok nmX2 hown hK hP hD hS 0 rfl rfl 3 (Nat.le_of_ble_eq_true rfl) (hts _ fl_X2_27) (fun _ h => h) rfl hin rfl (ty := .int) (tyX2_ok 3 (by decide)) rfl rfl (Nat.le_of_ble_eq_true rfl) dX2_init_32 (fun H locs hP hD hS => ?_)
  have hP : va_P g.1 vwCl [(h0, .inr (2, [.int x1, .int x2, .int x3, .int x4, .int 0, .int 0, .int 0, .int 0]))] H := hP
  have hD : va_D A [(h0, .inr (2, [.int x1, .int x2, .int x3, .int x4, .int 0, .int 0, .int 0, .int 0]))] := hD
  refine lv_aload_n hx hb dX2_init_35 rfl (lv_at hl 0 rfl) ?_
  refine lv_iload hx hb dX2_init_36 (lv_at hl 5 rfl) ?_
  refine va_putF (C := RX2) (T := TX2) (N := 8) hx hb hts iX2 tyX2 tyX2_ok nmX2 hown hK hP hD hS 0 rfl rfl 4 (Nat.le_of_ble_eq_true rfl) (hts _ fl_X2_30) (fun _ h => h) rfl hin rfl (ty := .int) (tyX2_ok 4 (by decide)) rfl rfl (Nat.le_of_ble_eq_true rfl) dX2_init_38 (fun H locs hP hD hS => ?_)
  have hP : va_P g.1 vwCl [(h0, .inr (2, [.int x1, .int x2, .int x3, .int x4, .int x5, .int 0, .int 0, .int 0]))] H := hP
  have hD : va_D A [(h0, .inr (2, [.int x1, .int x2, .int x3, .int x4, .int x5, .int 0, .int 0, .int 0]))] := hD
  refine lv_aload_n hx hb dX2_init_41 rfl (lv_at hl 0 rfl) ?_
  refine lv_iload hx hb dX2_init_42 (lv_at hl 6 rfl) ?_
  refine va_put (C := RX2) (T := TX2) (N := 8) hx hb hts iX2 tyX2 tyX2_ok nmX2 hown hK hP hD hS 0 rfl rfl 7 (Nat.le_of_ble_eq_true rfl) (hts _ fl_X2_33) (fun _ h => h) rfl (ty := .int) (tyX2_ok 7 (by decide)) rfl rfl (Nat.le_of_ble_eq_true rfl) dX2_init_44 (fun H locs hP hD hS => ?_)
  have hP : va_P g.1 vwCl [(h0, .inr (2, [.int x1, .int x2, .int x3, .int x4, .int x5, .int 0, .int 0, .int x6]))] H := hP
  have hD : va_D A [(h0, .inr (2, [.int x1, .int x2, .int x3, .int x4, .int x5, .int 0, .int 0, .int x6]))] := hD
  exact W.vret hx hb hr (fun t ht hW => ⟨⟨(fun i => [].getD i 0), rfl, trivial, by rw [ht]; exact hP, hD⟩, hS.F ht⟩) hS.2.2 dX2_init_47 hlocks
set_option maxHeartbeats 4000000 in
set_option maxRecDepth 100000 in
theorem c_X0_init (l : Launch) (g : wG) (h0 sz : Nat) (x1 x3 : Int32) (x2 : Nat) : Met l yX0_init (.code yX0_init cX0_init 4 none :: wAll) ({ frames := 1, cells := 1, slots := 4, locals := 12 }) (va_Pc [.ref h0, .int x1, .ref x2, .int x3] (fun U => U.heap.size = sz ∧ va_P g.1 vwCl [(h0, .inr (0, [.int 0, .null, .int 0, .null, .int 0, .int 0, .int 0, .int 0, .int 0, .int 0]))] U.heap ∧ va_K g.1 vwCl (wTy g) U ∧ va_D (fun _ => True) [(h0, .inr (0, [.int 0, .null, .int 0, .null, .int 0, .int 0, .int 0, .int 0, .int 0, .int 0]))])) (va_Qv (fun _ : Nat → Nat => True) (fun u t => va_P g.1 vwCl [(h0, .inr (0, [.int x1, .ref x2, .int x3, .ref (u 0), .int 0, .int (-1), .int (-1), .int (-1), .int 0, .int 0])), ((u 0), .inl (g.2.1 0, 4, .inl (fun _ => 0)))] t.heap ∧ va_D (va_A [(h0, .inr (0, [.int 0, .null, .int 0, .null, .int 0, .int 0, .int 0, .int 0, .int 0, .int 0]))] sz) [(h0, .inr (0, [.int x1, .ref x2, .int x3, .ref (u 0), .int 0, .int (-1), .int (-1), .int (-1), .int 0, .int 0])), ((u 0), .inl (g.2.1 0, 4, .inl (fun _ => 0)))]) (va_A [(h0, .inr (0, [.int 0, .null, .int 0, .null, .int 0, .int 0, .int 0, .int 0, .int 0, .int 0]))] sz)) 1 4 (va_A [(h0, .inr (0, [.int 0, .null, .int 0, .null, .int 0, .int 0, .int 0, .int 0, .int 0, .int 0]))] sz) := by
  refine Met.ofW (cc := cX0_init) (maxL := 4) (ret := none) (by decide) rfl ?_
  intro p e s m args below meth c s₁ B hml hv
  obtain ⟨rfl, hsz, hP, hK, hD0⟩ := hv
  have hx := B.exec
  have hb := B.bytes
  have hr := B.returns
  have hts0 := atoms_spec (ws := .code yX0_init cX0_init 4 none :: wAll) B.pre
  have hts := fun w (hw : w ∈ wAll) => hts0 w (List.mem_cons_of_mem _ hw)
  have hown : s.vm.findClass RX0 = some m.cls := findClass_of_methodNamed B.named
  have hlocks := B.notSynchronized
  have hin : meth.name = "<init>" := (name_of_methodNamed B.named B.method).1
  subst hsz
  have hD := hD0.self (sz := s.heap.size)
  generalize hAe : va_A [(h0, .inr (0, [.int 0, .null, .int 0, .null, .int 0, .int 0, .int 0, .int 0, .int 0, .int 0]))] s.heap.size = A at hD ⊢
  have hA : ∀ q : Nat, s.heap.size ≤ q → A q := fun q h => by rw [← hAe]; exact Or.inr h
  have hS : va_S A s.heap s.heap [] := va_S.rf
  have hl := lv_entry ([.ref h0, .int x1, .ref x2, .int x3]) (n := 4) (Nat.le_of_ble_eq_true rfl)
  rw [lg_entry_eq]
  generalize (lg_sl ([.ref h0, .int x1, .ref x2, .int x3]) ++ List.replicate (4 - (lg_sl ([.ref h0, .int x1, .ref x2, .int x3])).length) Slot.unset).toArray = ls at hl ⊢
  have hl : lv_has ls 4 [(0, .ref h0), (1, .int x1), (2, .ref x2), (3, .int x3)] := hl
  have hP : va_P g.1 vwCl [(h0, .inr (0, [.int 0, .null, .int 0, .null, .int 0, .int 0, .int 0, .int 0, .int 0, .int 0]))] s.heap := hP
  refine lv_aload_n hx hb dX0_init_0 rfl (lv_at hl 0 rfl) ?_
  refine W.objInit hx hb hown (hts _ mo_X0) (hts _ io_) (hts _ oc_) rfl (by rw [hml]; exact hl.1) rfl dX0_init_1 (Nat.le_of_ble_eq_true rfl) (Nat.le_of_ble_eq_true rfl) ?_
  refine W.eq (g2 := F0 m 4 ls []) rfl ?_
  refine lv_aload_n hx hb dX0_init_4 rfl (lv_at hl 0 rfl) ?_
  refine lv_iconst (v := 4) hx hb dX0_init_5 (by decide) ?_
  refine va_newa (atype := .int) (N' := 4) (a0 := (4, .inl (fun _ => 0))) hx hb (hts _ ac_int) rfl hK hP hD hS hA (fun _ => rfl) (by decide) (by decide) (Nat.le_of_ble_eq_true rfl) (Nat.le_of_ble_eq_true rfl) (Nat.le_of_ble_eq_true rfl) dX0_init_6 (fun q1 cA H hK1 hP hD hS => ?_)
  obtain rfl : cA = g.2.1 0 := ty_eq hK1 0 rfl
  have hP : va_P g.1 vwCl [(h0, .inr (0, [.int 0, .null, .int 0, .null, .int 0, .int 0, .int 0, .int 0, .int 0, .int 0])), (q1, .inl (g.2.1 0, 4, .inl (fun _ => 0)))] H := hP
  have hD : va_D A [(h0, .inr (0, [.int 0, .null, .int 0, .null, .int 0, .int 0, .int 0, .int 0, .int 0, .int 0])), (q1, .inl (g.2.1 0, 4, .inl (fun _ => 0)))] := hD
  refine va_putF (C := RX0) (T := TX0) (N := 10) hx hb hts iX0 tyX0 tyX0_ok nmX0 hown hK hP hD hS 0 rfl rfl 3 (Nat.le_of_ble_eq_true rfl) (hts _ fl_X0_9) (fun _ h => h) rfl hin rfl (ty := .array .int) (tyX0_ok 3 (by decide)) rfl rfl (Nat.le_of_ble_eq_true rfl) dX0_init_8 (fun H locs hP hD hS => ?_)
  have hP : va_P g.1 vwCl [(h0, .inr (0, [.int 0, .null, .int 0, .ref q1, .int 0, .int 0, .int 0, .int 0, .int 0, .int 0])), (q1, .inl (g.2.1 0, 4, .inl (fun _ => 0)))] H := hP
  have hD : va_D A [(h0, .inr (0, [.int 0, .null, .int 0, .ref q1, .int 0, .int 0, .int 0, .int 0, .int 0, .int 0])), (q1, .inl (g.2.1 0, 4, .inl (fun _ => 0)))] := hD
  refine lv_aload_n hx hb dX0_init_11 rfl (lv_at hl 0 rfl) ?_
  refine lv_iconst (v := 0) hx hb dX0_init_12 (by decide) ?_
  refine va_put (C := RX0) (T := TX0) (N := 10) hx hb hts iX0 tyX0 tyX0_ok nmX0 hown hK hP hD hS 0 rfl rfl 4 (Nat.le_of_ble_eq_true rfl) (hts _ fl_X0_15) (fun _ h => h) rfl (ty := .int) (tyX0_ok 4 (by decide)) rfl rfl (Nat.le_of_ble_eq_true rfl) dX0_init_13 (fun H locs hP hD hS => ?_)
  have hP : va_P g.1 vwCl [(h0, .inr (0, [.int 0, .null, .int 0, .ref q1, .int 0, .int 0, .int 0, .int 0, .int 0, .int 0])), (q1, .inl (g.2.1 0, 4, .inl (fun _ => 0)))] H := hP
  have hD : va_D A [(h0, .inr (0, [.int 0, .null, .int 0, .ref q1, .int 0, .int 0, .int 0, .int 0, .int 0, .int 0])), (q1, .inl (g.2.1 0, 4, .inl (fun _ => 0)))] := hD
  refine lv_aload_n hx hb dX0_init_16 rfl (lv_at hl 0 rfl) ?_
  refine lv_iconst (v := (-1)) hx hb dX0_init_17 (by decide) ?_
  refine va_put (C := RX0) (T := TX0) (N := 10) hx hb hts iX0 tyX0 tyX0_ok nmX0 hown hK hP hD hS 0 rfl rfl 5 (Nat.le_of_ble_eq_true rfl) (hts _ fl_X0_19) (fun _ h => h) rfl (ty := .int) (tyX0_ok 5 (by decide)) rfl rfl (Nat.le_of_ble_eq_true rfl) dX0_init_18 (fun H locs hP hD hS => ?_)
  have hP : va_P g.1 vwCl [(h0, .inr (0, [.int 0, .null, .int 0, .ref q1, .int 0, .int (-1), .int 0, .int 0, .int 0, .int 0])), (q1, .inl (g.2.1 0, 4, .inl (fun _ => 0)))] H := hP
  have hD : va_D A [(h0, .inr (0, [.int 0, .null, .int 0, .ref q1, .int 0, .int (-1), .int 0, .int 0, .int 0, .int 0])), (q1, .inl (g.2.1 0, 4, .inl (fun _ => 0)))] := hD
  refine lv_aload_n hx hb dX0_init_21 rfl (lv_at hl 0 rfl) ?_
  refine lv_iconst (v := (-1)) hx hb dX0_init_22 (by decide) ?_
  refine va_put (C := RX0) (T := TX0) (N := 10) hx hb hts iX0 tyX0 tyX0_ok nmX0 hown hK hP hD hS 0 rfl rfl 6 (Nat.le_of_ble_eq_true rfl) (hts _ fl_X0_22) (fun _ h => h) rfl (ty := .int) (tyX0_ok 6 (by decide)) rfl rfl (Nat.le_of_ble_eq_true rfl) dX0_init_23 (fun H locs hP hD hS => ?_)
  have hP : va_P g.1 vwCl [(h0, .inr (0, [.int 0, .null, .int 0, .ref q1, .int 0, .int (-1), .int (-1), .int 0, .int 0, .int 0])), (q1, .inl (g.2.1 0, 4, .inl (fun _ => 0)))] H := hP
  have hD : va_D A [(h0, .inr (0, [.int 0, .null, .int 0, .ref q1, .int 0, .int (-1), .int (-1), .int 0, .int 0, .int 0])), (q1, .inl (g.2.1 0, 4, .inl (fun _ => 0)))] := hD
  refine lv_aload_n hx hb dX0_init_26 rfl (lv_at hl 0 rfl) ?_
  refine lv_iconst (v := (-1)) hx hb dX0_init_27 (by decide) ?_
  refine va_put (C := RX0) (T := TX0) (N := 10) hx hb hts iX0 tyX0 tyX0_ok nmX0 hown hK hP hD hS 0 rfl rfl 7 (Nat.le_of_ble_eq_true rfl) (hts _ fl_X0_25) (fun _ h => h) rfl (ty := .int) (tyX0_ok 7 (by decide)) rfl rfl (Nat.le_of_ble_eq_true rfl) dX0_init_28 (fun H locs hP hD hS => ?_)
  have hP : va_P g.1 vwCl [(h0, .inr (0, [.int 0, .null, .int 0, .ref q1, .int 0, .int (-1), .int (-1), .int (-1), .int 0, .int 0])), (q1, .inl (g.2.1 0, 4, .inl (fun _ => 0)))] H := hP
  have hD : va_D A [(h0, .inr (0, [.int 0, .null, .int 0, .ref q1, .int 0, .int (-1), .int (-1), .int (-1), .int 0, .int 0])), (q1, .inl (g.2.1 0, 4, .inl (fun _ => 0)))] := hD
  refine lv_aload_n hx hb dX0_init_31 rfl (lv_at hl 0 rfl) ?_
  refine lv_iconst (v := 0) hx hb dX0_init_32 (by decide) ?_
  refine va_put (C := RX0) (T := TX0) (N := 10) hx hb hts iX0 tyX0 tyX0_ok nmX0 hown hK hP hD hS 0 rfl rfl 8 (Nat.le_of_ble_eq_true rfl) (hts _ fl_X0_28) (fun _ h => h) rfl (ty := .boolean) (tyX0_ok 8 (by decide)) rfl rfl (Nat.le_of_ble_eq_true rfl) dX0_init_33 (fun H locs hP hD hS => ?_)
  have hP : va_P g.1 vwCl [(h0, .inr (0, [.int 0, .null, .int 0, .ref q1, .int 0, .int (-1), .int (-1), .int (-1), .int 0, .int 0])), (q1, .inl (g.2.1 0, 4, .inl (fun _ => 0)))] H := hP
  have hD : va_D A [(h0, .inr (0, [.int 0, .null, .int 0, .ref q1, .int 0, .int (-1), .int (-1), .int (-1), .int 0, .int 0])), (q1, .inl (g.2.1 0, 4, .inl (fun _ => 0)))] := hD
  refine lv_aload_n hx hb dX0_init_36 rfl (lv_at hl 0 rfl) ?_
  refine lv_iconst (v := 0) hx hb dX0_init_37 (by decide) ?_
  refine va_put (C := RX0) (T := TX0) (N := 10) hx hb hts iX0 tyX0 tyX0_ok nmX0 hown hK hP hD hS 0 rfl rfl 9 (Nat.le_of_ble_eq_true rfl) (hts _ fl_X0_32) (fun _ h => h) rfl (ty := .boolean) (tyX0_ok 9 (by decide)) rfl rfl (Nat.le_of_ble_eq_true rfl) dX0_init_38 (fun H locs hP hD hS => ?_)
  have hP : va_P g.1 vwCl [(h0, .inr (0, [.int 0, .null, .int 0, .ref q1, .int 0, .int (-1), .int (-1), .int (-1), .int 0, .int 0])), (q1, .inl (g.2.1 0, 4, .inl (fun _ => 0)))] H := hP
  have hD : va_D A [(h0, .inr (0, [.int 0, .null, .int 0, .ref q1, .int 0, .int (-1), .int (-1), .int (-1), .int 0, .int 0])), (q1, .inl (g.2.1 0, 4, .inl (fun _ => 0)))] := hD
  refine lv_aload_n hx hb dX0_init_41 rfl (lv_at hl 0 rfl) ?_
  refine lv_iload_n hx hb dX0_init_42 rfl (lv_at hl 1 rfl) ?_
  refine va_putF (C := RX0) (T := TX0) (N := 10) hx hb hts iX0 tyX0 tyX0_ok nmX0 hown hK hP hD hS 0 rfl rfl 0 (Nat.le_of_ble_eq_true rfl) (hts _ fl_X0_35) (fun _ h => h) rfl hin rfl (ty := .int) (tyX0_ok 0 (by decide)) rfl rfl (Nat.le_of_ble_eq_true rfl) dX0_init_43 (fun H locs hP hD hS => ?_)
  have hP : va_P g.1 vwCl [(h0, .inr (0, [.int x1, .null, .int 0, .ref q1, .int 0, .int (-1), .int (-1), .int (-1), .int 0, .int 0])), (q1, .inl (g.2.1 0, 4, .inl (fun _ => 0)))] H := hP
  have hD : va_D A [(h0, .inr (0, [.int x1, .null, .int 0, .ref q1, .int 0, .int (-1), .int (-1), .int (-1), .int 0, .int 0])), (q1, .inl (g.2.1 0, 4, .inl (fun _ => 0)))] := hD
  refine lv_aload_n hx hb dX0_init_46 rfl (lv_at hl 0 rfl) ?_
  refine lv_aload_n hx hb dX0_init_47 rfl (lv_at hl 2 rfl) ?_
  refine va_putF (C := RX0) (T := TX0) (N := 10) hx hb hts iX0 tyX0 tyX0_ok nmX0 hown hK hP hD hS 0 rfl rfl 1 (Nat.le_of_ble_eq_true rfl) (hts _ fl_X0_38) (fun _ h => h) rfl hin rfl (ty := .object RX2) (tyX0_ok 1 (by decide)) rfl rfl (Nat.le_of_ble_eq_true rfl) dX0_init_48 (fun H locs hP hD hS => ?_)
  have hP : va_P g.1 vwCl [(h0, .inr (0, [.int x1, .ref x2, .int 0, .ref q1, .int 0, .int (-1), .int (-1), .int (-1), .int 0, .int 0])), (q1, .inl (g.2.1 0, 4, .inl (fun _ => 0)))] H := hP
  have hD : va_D A [(h0, .inr (0, [.int x1, .ref x2, .int 0, .ref q1, .int 0, .int (-1), .int (-1), .int (-1), .int 0, .int 0])), (q1, .inl (g.2.1 0, 4, .inl (fun _ => 0)))] := hD
  refine lv_aload_n hx hb dX0_init_51 rfl (lv_at hl 0 rfl) ?_
  refine lv_iload_n hx hb dX0_init_52 rfl (lv_at hl 3 rfl) ?_
  refine va_putF (C := RX0) (T := TX0) (N := 10) hx hb hts iX0 tyX0 tyX0_ok nmX0 hown hK hP hD hS 0 rfl rfl 2 (Nat.le_of_ble_eq_true rfl) (hts _ fl_X0_42) (fun _ h => h) rfl hin rfl (ty := .int) (tyX0_ok 2 (by decide)) rfl rfl (Nat.le_of_ble_eq_true rfl) dX0_init_53 (fun H locs hP hD hS => ?_)
  have hP : va_P g.1 vwCl [(h0, .inr (0, [.int x1, .ref x2, .int x3, .ref q1, .int 0, .int (-1), .int (-1), .int (-1), .int 0, .int 0])), (q1, .inl (g.2.1 0, 4, .inl (fun _ => 0)))] H := hP
  have hD : va_D A [(h0, .inr (0, [.int x1, .ref x2, .int x3, .ref q1, .int 0, .int (-1), .int (-1), .int (-1), .int 0, .int 0])), (q1, .inl (g.2.1 0, 4, .inl (fun _ => 0)))] := hD
  exact W.vret hx hb hr (fun t ht hW => ⟨⟨(fun i => [q1].getD i 0), rfl, trivial, by rw [ht]; exact hP, hD⟩, hS.F ht⟩) hS.2.2 dX0_init_56 hlocks
set_option maxHeartbeats 4000000 in
set_option maxRecDepth 100000 in
theorem c_X1_init (l : Launch) (g : wG) (h0 sz : Nat) : Met l yX1_init (.code yX1_init cX1_init 1 none :: wAll) ({ frames := 1, cells := 3, slots := 48, locals := 12 }) (va_Pc [.ref h0] (fun U => U.heap.size = sz ∧ va_P g.1 vwCl [(h0, .inr (1, [.int 0, .int 0, .null, .null, .null]))] U.heap ∧ va_K g.1 vwCl (wTy g) U ∧ va_D (fun _ => True) [(h0, .inr (1, [.int 0, .int 0, .null, .null, .null]))] ∧ va_AO RX2 U)) (va_Qv (fun _ : Nat → Nat => True) (fun u t => va_P g.1 vwCl [(h0, .inr (1, [.int 0, .int 10, .ref (u 0), .ref (u 1), .ref (u 2)])), ((u 0), .inl (g.2.1 0, 16, .inl (fun _ => 0))), ((u 1), .inl (g.2.1 2, 16, .inr (.inr (.inr (.inr (fun _ => none)))))), ((u 2), .inl (g.2.1 0, 16, .inl (fun _ => 0)))] t.heap ∧ va_D (va_A [(h0, .inr (1, [.int 0, .int 0, .null, .null, .null]))] sz) [(h0, .inr (1, [.int 0, .int 10, .ref (u 0), .ref (u 1), .ref (u 2)])), ((u 0), .inl (g.2.1 0, 16, .inl (fun _ => 0))), ((u 1), .inl (g.2.1 2, 16, .inr (.inr (.inr (.inr (fun _ => none)))))), ((u 2), .inl (g.2.1 0, 16, .inl (fun _ => 0)))]) (va_A [(h0, .inr (1, [.int 0, .int 0, .null, .null, .null]))] sz)) 3 48 (va_A [(h0, .inr (1, [.int 0, .int 0, .null, .null, .null]))] sz) := by
  refine Met.ofW (cc := cX1_init) (maxL := 1) (ret := none) (by decide) rfl ?_
  intro p e s m args below meth c s₁ B hml hv
  obtain ⟨rfl, hsz, hP, hK, hD0, hoX2⟩ := hv
  have hx := B.exec
  have hb := B.bytes
  have hr := B.returns
  have hts0 := atoms_spec (ws := .code yX1_init cX1_init 1 none :: wAll) B.pre
  have hts := fun w (hw : w ∈ wAll) => hts0 w (List.mem_cons_of_mem _ hw)
  have hown : s.vm.findClass RX1 = some m.cls := findClass_of_methodNamed B.named
  have hlocks := B.notSynchronized
  have hin : meth.name = "<init>" := (name_of_methodNamed B.named B.method).1
  subst hsz
  have hD := hD0.self (sz := s.heap.size)
  generalize hAe : va_A [(h0, .inr (1, [.int 0, .int 0, .null, .null, .null]))] s.heap.size = A at hD ⊢
  have hA : ∀ q : Nat, s.heap.size ≤ q → A q := fun q h => by rw [← hAe]; exact Or.inr h
  have hS : va_S A s.heap s.heap [] := va_S.rf
  have hl := lv_entry ([.ref h0]) (n := 1) (Nat.le_of_ble_eq_true rfl)
  rw [lg_entry_eq]
  generalize (lg_sl ([.ref h0]) ++ List.replicate (1 - (lg_sl ([.ref h0])).length) Slot.unset).toArray = ls at hl ⊢
  have hl : lv_has ls 1 [(0, .ref h0)] := hl
  have hP : va_P g.1 vwCl [(h0, .inr (1, [.int 0, .int 0, .null, .null, .null]))] s.heap := hP
  refine lv_aload_n hx hb dX1_init_0 rfl (lv_at hl 0 rfl) ?_
  refine W.objInit hx hb hown (hts _ mo_X1) (hts _ io_) (hts _ oc_) rfl (by rw [hml]; exact hl.1) rfl dX1_init_1 (Nat.le_of_ble_eq_true rfl) (Nat.le_of_ble_eq_true rfl) ?_
  refine W.eq (g2 := F0 m 4 ls []) rfl ?_
  refine lv_aload_n hx hb dX1_init_4 rfl (lv_at hl 0 rfl) ?_
  refine lv_iconst (v := 0) hx hb dX1_init_5 (by decide) ?_
  refine va_put (C := RX1) (T := TX1) (N := 5) hx hb hts iX1 tyX1 tyX1_ok nmX1 hown hK hP hD hS 0 rfl rfl 0 (Nat.le_of_ble_eq_true rfl) (hts _ fl_X1_9) (fun _ h => h) rfl (ty := .int) (tyX1_ok 0 (by decide)) rfl rfl (Nat.le_of_ble_eq_true rfl) dX1_init_6 (fun H locs hP hD hS => ?_)
  have hP : va_P g.1 vwCl [(h0, .inr (1, [.int 0, .int 0, .null, .null, .null]))] H := hP
  have hD : va_D A [(h0, .inr (1, [.int 0, .int 0, .null, .null, .null]))] := hD
  refine lv_aload_n hx hb dX1_init_9 rfl (lv_at hl 0 rfl) ?_
  refine lv_bipush (v := 10) hx hb dX1_init_10 (by decide) ?_
  refine va_put (C := RX1) (T := TX1) (N := 5) hx hb hts iX1 tyX1 tyX1_ok nmX1 hown hK hP hD hS 0 rfl rfl 1 (Nat.le_of_ble_eq_true rfl) (hts _ fl_X1_15) (fun _ h => h) rfl (ty := .int) (tyX1_ok 1 (by decide)) rfl rfl (Nat.le_of_ble_eq_true rfl) dX1_init_12 (fun H locs hP hD hS => ?_)
  have hP : va_P g.1 vwCl [(h0, .inr (1, [.int 0, .int 10, .null, .null, .null]))] H := hP
  have hD : va_D A [(h0, .inr (1, [.int 0, .int 10, .null, .null, .null]))] := hD
  refine lv_aload_n hx hb dX1_init_15 rfl (lv_at hl 0 rfl) ?_
  refine lv_bipush (v := 16) hx hb dX1_init_16 (by decide) ?_
  refine va_newa (atype := .int) (N' := 16) (a0 := (16, .inl (fun _ => 0))) hx hb (hts _ ac_int) rfl hK hP hD hS hA (fun _ => rfl) (by decide) (by decide) (Nat.le_of_ble_eq_true rfl) (Nat.le_of_ble_eq_true rfl) (Nat.le_of_ble_eq_true rfl) dX1_init_18 (fun q1 cA H hK1 hP hD hS => ?_)
  obtain rfl : cA = g.2.1 0 := ty_eq hK1 0 rfl
  have hP : va_P g.1 vwCl [(h0, .inr (1, [.int 0, .int 10, .null, .null, .null])), (q1, .inl (g.2.1 0, 16, .inl (fun _ => 0)))] H := hP
  have hD : va_D A [(h0, .inr (1, [.int 0, .int 10, .null, .null, .null])), (q1, .inl (g.2.1 0, 16, .inl (fun _ => 0)))] := hD
  refine va_putF (C := RX1) (T := TX1) (N := 5) hx hb hts iX1 tyX1 tyX1_ok nmX1 hown hK hP hD hS 0 rfl rfl 2 (Nat.le_of_ble_eq_true rfl) (hts _ fl_X1_18) (fun _ h => h) rfl hin rfl (ty := .array .int) (tyX1_ok 2 (by decide)) rfl rfl (Nat.le_of_ble_eq_true rfl) dX1_init_20 (fun H locs hP hD hS => ?_)
  have hP : va_P g.1 vwCl [(h0, .inr (1, [.int 0, .int 10, .ref q1, .null, .null])), (q1, .inl (g.2.1 0, 16, .inl (fun _ => 0)))] H := hP
  have hD : va_D A [(h0, .inr (1, [.int 0, .int 10, .ref q1, .null, .null])), (q1, .inl (g.2.1 0, 16, .inl (fun _ => 0)))] := hD
  refine lv_aload_n hx hb dX1_init_23 rfl (lv_at hl 0 rfl) ?_
  refine lv_bipush (v := 16) hx hb dX1_init_24 (by decide) ?_
  refine va_newq (C := RX2) (N' := 16) hx hb hown (hts _ cl_X1_22) hoX2 hK hP hD hS hA (by decide) (by decide) (Nat.le_of_ble_eq_true rfl) (Nat.le_of_ble_eq_true rfl) (Nat.le_of_ble_eq_true rfl) dX1_init_26 (fun q2 cA H hK1 hP hD hS => ?_)
  obtain rfl : cA = g.2.1 2 := ty_eq hK1 2 rfl
  have hP : va_P g.1 vwCl [(h0, .inr (1, [.int 0, .int 10, .ref q1, .null, .null])), (q1, .inl (g.2.1 0, 16, .inl (fun _ => 0))), (q2, .inl (g.2.1 2, 16, .inr (.inr (.inr (.inr (fun _ => none))))))] H := hP
  have hD : va_D A [(h0, .inr (1, [.int 0, .int 10, .ref q1, .null, .null])), (q1, .inl (g.2.1 0, 16, .inl (fun _ => 0))), (q2, .inl (g.2.1 2, 16, .inr (.inr (.inr (.inr (fun _ => none))))))] := hD
  refine va_putF (C := RX1) (T := TX1) (N := 5) hx hb hts iX1 tyX1 tyX1_ok nmX1 hown hK hP hD hS 0 rfl rfl 3 (Nat.le_of_ble_eq_true rfl) (hts _ fl_X1_24) (fun _ h => h) rfl hin rfl (ty := .array (.object "Hearingpay$Matter")) (tyX1_ok 3 (by decide)) rfl rfl (Nat.le_of_ble_eq_true rfl) dX1_init_29 (fun H locs hP hD hS => ?_)
  have hP : va_P g.1 vwCl [(h0, .inr (1, [.int 0, .int 10, .ref q1, .ref q2, .null])), (q1, .inl (g.2.1 0, 16, .inl (fun _ => 0))), (q2, .inl (g.2.1 2, 16, .inr (.inr (.inr (.inr (fun _ => none))))))] H := hP
  have hD : va_D A [(h0, .inr (1, [.int 0, .int 10, .ref q1, .ref q2, .null])), (q1, .inl (g.2.1 0, 16, .inl (fun _ => 0))), (q2, .inl (g.2.1 2, 16, .inr (.inr (.inr (.inr (fun _ => none))))))] := hD
  refine lv_aload_n hx hb dX1_init_32 rfl (lv_at hl 0 rfl) ?_
  refine lv_bipush (v := 16) hx hb dX1_init_33 (by decide) ?_
  refine va_newa (atype := .int) (N' := 16) (a0 := (16, .inl (fun _ => 0))) hx hb (hts _ ac_int) rfl hK hP hD hS hA (fun _ => rfl) (by decide) (by decide) (Nat.le_of_ble_eq_true rfl) (Nat.le_of_ble_eq_true rfl) (Nat.le_of_ble_eq_true rfl) dX1_init_35 (fun q3 cA H hK1 hP hD hS => ?_)
  obtain rfl : cA = g.2.1 0 := ty_eq hK1 0 rfl
  have hP : va_P g.1 vwCl [(h0, .inr (1, [.int 0, .int 10, .ref q1, .ref q2, .null])), (q1, .inl (g.2.1 0, 16, .inl (fun _ => 0))), (q2, .inl (g.2.1 2, 16, .inr (.inr (.inr (.inr (fun _ => none)))))), (q3, .inl (g.2.1 0, 16, .inl (fun _ => 0)))] H := hP
  have hD : va_D A [(h0, .inr (1, [.int 0, .int 10, .ref q1, .ref q2, .null])), (q1, .inl (g.2.1 0, 16, .inl (fun _ => 0))), (q2, .inl (g.2.1 2, 16, .inr (.inr (.inr (.inr (fun _ => none)))))), (q3, .inl (g.2.1 0, 16, .inl (fun _ => 0)))] := hD
  refine va_putF (C := RX1) (T := TX1) (N := 5) hx hb hts iX1 tyX1 tyX1_ok nmX1 hown hK hP hD hS 0 rfl rfl 4 (Nat.le_of_ble_eq_true rfl) (hts _ fl_X1_28) (fun _ h => h) rfl hin rfl (ty := .array .int) (tyX1_ok 4 (by decide)) rfl rfl (Nat.le_of_ble_eq_true rfl) dX1_init_37 (fun H locs hP hD hS => ?_)
  have hP : va_P g.1 vwCl [(h0, .inr (1, [.int 0, .int 10, .ref q1, .ref q2, .ref q3])), (q1, .inl (g.2.1 0, 16, .inl (fun _ => 0))), (q2, .inl (g.2.1 2, 16, .inr (.inr (.inr (.inr (fun _ => none)))))), (q3, .inl (g.2.1 0, 16, .inl (fun _ => 0)))] H := hP
  have hD : va_D A [(h0, .inr (1, [.int 0, .int 10, .ref q1, .ref q2, .ref q3])), (q1, .inl (g.2.1 0, 16, .inl (fun _ => 0))), (q2, .inl (g.2.1 2, 16, .inr (.inr (.inr (.inr (fun _ => none)))))), (q3, .inl (g.2.1 0, 16, .inl (fun _ => 0)))] := hD
  exact W.vret hx hb hr (fun t ht hW => ⟨⟨(fun i => [q1, q2, q3].getD i 0), rfl, trivial, by rw [ht]; exact hP, hD⟩, hS.F ht⟩) hS.2.2 dX1_init_40 hlocks
set_option maxHeartbeats 4000000 in
set_option maxRecDepth 100000 in
theorem c_X3_init (l : Launch) (g : wG) (h0 sz : Nat) : Met l yX3_init (.code yX3_init cX3_init 2 none :: wAll) ({ frames := 2, cells := 20, slots := 258, locals := 32 }) (va_Pc [.ref h0] (fun U => U.heap.size = sz ∧ va_P g.1 vwCl [(h0, .inr (3, [.null, .null, .null, .null, .int 0, .int 0, .int 0]))] U.heap ∧ va_K g.1 vwCl (wTy g) U ∧ va_D (fun _ => True) [(h0, .inr (3, [.null, .null, .null, .null, .int 0, .int 0, .int 0]))] ∧ va_AO RX0 U ∧ va_AO RX1 U ∧ va_AO RX2 U ∧ va_Nw xNest U)) (va_Qv (fun _ : Nat → Nat => True) (fun u t => va_P g.1 vwCl [(h0, .inr (3, [.ref (u 0), .ref (u 1), .ref (u 2), .ref (u 3), .int 0, .int 0, .int 0])), ((u 0), .inl (g.2.1 4, 4, .inr (.inr (.inr (.inr (va_up (va_up (va_up (va_up (fun _ => none) 0 (some (u 4))) 1 (some (u 8))) 2 (some (u 12))) 3 (some (u 16)))))))), ((u 1), .inl (g.2.1 1, 6, .inl (fun _ => 0))), ((u 2), .inl (g.2.1 2, 12, .inr (.inr (.inr (.inr (fun _ => none)))))), ((u 3), .inl (g.2.1 3, 24, .inr (.inr (.inr (.inr (fun _ => none)))))), ((u 4), .inr (1, [.int 0, .int 10, .ref (u 5), .ref (u 6), .ref (u 7)])), (u 5, .inl (g.2.1 0, 16, .inl (fun _ => 0))), (u 6, .inl (g.2.1 2, 16, .inr (.inr (.inr (.inr (fun _ => none)))))), (u 7, .inl (g.2.1 0, 16, .inl (fun _ => 0))), ((u 8), .inr (1, [.int 0, .int 10, .ref (u 9), .ref (u 10), .ref (u 11)])), (u 9, .inl (g.2.1 0, 16, .inl (fun _ => 0))), (u 10, .inl (g.2.1 2, 16, .inr (.inr (.inr (.inr (fun _ => none)))))), (u 11, .inl (g.2.1 0, 16, .inl (fun _ => 0))), ((u 12), .inr (1, [.int 0, .int 10, .ref (u 13), .ref (u 14), .ref (u 15)])), (u 13, .inl (g.2.1 0, 16, .inl (fun _ => 0))), (u 14, .inl (g.2.1 2, 16, .inr (.inr (.inr (.inr (fun _ => none)))))), (u 15, .inl (g.2.1 0, 16, .inl (fun _ => 0))), ((u 16), .inr (1, [.int 0, .int 10, .ref (u 17), .ref (u 18), .ref (u 19)])), (u 17, .inl (g.2.1 0, 16, .inl (fun _ => 0))), (u 18, .inl (g.2.1 2, 16, .inr (.inr (.inr (.inr (fun _ => none)))))), (u 19, .inl (g.2.1 0, 16, .inl (fun _ => 0)))] t.heap ∧ va_D (va_A [(h0, .inr (3, [.null, .null, .null, .null, .int 0, .int 0, .int 0]))] sz) [(h0, .inr (3, [.ref (u 0), .ref (u 1), .ref (u 2), .ref (u 3), .int 0, .int 0, .int 0])), ((u 0), .inl (g.2.1 4, 4, .inr (.inr (.inr (.inr (va_up (va_up (va_up (va_up (fun _ => none) 0 (some (u 4))) 1 (some (u 8))) 2 (some (u 12))) 3 (some (u 16)))))))), ((u 1), .inl (g.2.1 1, 6, .inl (fun _ => 0))), ((u 2), .inl (g.2.1 2, 12, .inr (.inr (.inr (.inr (fun _ => none)))))), ((u 3), .inl (g.2.1 3, 24, .inr (.inr (.inr (.inr (fun _ => none)))))), ((u 4), .inr (1, [.int 0, .int 10, .ref (u 5), .ref (u 6), .ref (u 7)])), (u 5, .inl (g.2.1 0, 16, .inl (fun _ => 0))), (u 6, .inl (g.2.1 2, 16, .inr (.inr (.inr (.inr (fun _ => none)))))), (u 7, .inl (g.2.1 0, 16, .inl (fun _ => 0))), ((u 8), .inr (1, [.int 0, .int 10, .ref (u 9), .ref (u 10), .ref (u 11)])), (u 9, .inl (g.2.1 0, 16, .inl (fun _ => 0))), (u 10, .inl (g.2.1 2, 16, .inr (.inr (.inr (.inr (fun _ => none)))))), (u 11, .inl (g.2.1 0, 16, .inl (fun _ => 0))), ((u 12), .inr (1, [.int 0, .int 10, .ref (u 13), .ref (u 14), .ref (u 15)])), (u 13, .inl (g.2.1 0, 16, .inl (fun _ => 0))), (u 14, .inl (g.2.1 2, 16, .inr (.inr (.inr (.inr (fun _ => none)))))), (u 15, .inl (g.2.1 0, 16, .inl (fun _ => 0))), ((u 16), .inr (1, [.int 0, .int 10, .ref (u 17), .ref (u 18), .ref (u 19)])), (u 17, .inl (g.2.1 0, 16, .inl (fun _ => 0))), (u 18, .inl (g.2.1 2, 16, .inr (.inr (.inr (.inr (fun _ => none)))))), (u 19, .inl (g.2.1 0, 16, .inl (fun _ => 0)))]) (va_A [(h0, .inr (3, [.null, .null, .null, .null, .int 0, .int 0, .int 0]))] sz)) 20 258 (va_A [(h0, .inr (3, [.null, .null, .null, .null, .int 0, .int 0, .int 0]))] sz) := by
  refine Met.ofW (cc := cX3_init) (maxL := 2) (ret := none) (by decide) rfl ?_
  intro p e s m args below meth c s₁ B hml hv
  obtain ⟨rfl, hsz, hP, hK, hD0, hoX0, hoX1, hoX2, hnest⟩ := hv
  have hx := B.exec
  have hb := B.bytes
  have hr := B.returns
  have hts0 := atoms_spec (ws := .code yX3_init cX3_init 2 none :: wAll) B.pre
  have hts := fun w (hw : w ∈ wAll) => hts0 w (List.mem_cons_of_mem _ hw)
  have hown : s.vm.findClass RX3 = some m.cls := findClass_of_methodNamed B.named
  have hlocks := B.notSynchronized
  have hin : meth.name = "<init>" := (name_of_methodNamed B.named B.method).1
  subst hsz
  have hD := hD0.self (sz := s.heap.size)
  generalize hAe : va_A [(h0, .inr (3, [.null, .null, .null, .null, .int 0, .int 0, .int 0]))] s.heap.size = A at hD ⊢
  have hA : ∀ q : Nat, s.heap.size ≤ q → A q := fun q h => by rw [← hAe]; exact Or.inr h
  have hS : va_S A s.heap s.heap [] := va_S.rf
  have hl := lv_entry ([.ref h0]) (n := 2) (Nat.le_of_ble_eq_true rfl)
  rw [lg_entry_eq]
  generalize (lg_sl ([.ref h0]) ++ List.replicate (2 - (lg_sl ([.ref h0])).length) Slot.unset).toArray = ls at hl ⊢
  have hl : lv_has ls 2 [(0, .ref h0)] := hl
  have hP : va_P g.1 vwCl [(h0, .inr (3, [.null, .null, .null, .null, .int 0, .int 0, .int 0]))] s.heap := hP
  refine lv_aload_n hx hb dX3_init_0 rfl (lv_at hl 0 rfl) ?_
  refine W.objInit hx hb hown (hts _ mo_X3) (hts _ io_) (hts _ oc_) rfl (by rw [hml]; exact hl.1) rfl dX3_init_1 (Nat.le_of_ble_eq_true rfl) (Nat.le_of_ble_eq_true rfl) ?_
  refine W.eq (g2 := F0 m 4 ls []) rfl ?_
  refine lv_aload_n hx hb dX3_init_4 rfl (lv_at hl 0 rfl) ?_
  refine lv_iconst (v := 4) hx hb dX3_init_5 (by decide) ?_
  refine va_newq (C := RX1) (N' := 4) hx hb hown (hts _ cl_X3_9) hoX1 hK hP hD hS hA (by decide) (by decide) (Nat.le_of_ble_eq_true rfl) (Nat.le_of_ble_eq_true rfl) (Nat.le_of_ble_eq_true rfl) dX3_init_6 (fun q1 cA H hK1 hP hD hS => ?_)
  obtain rfl : cA = g.2.1 4 := ty_eq hK1 4 rfl
  have hP : va_P g.1 vwCl [(h0, .inr (3, [.null, .null, .null, .null, .int 0, .int 0, .int 0])), (q1, .inl (g.2.1 4, 4, .inr (.inr (.inr (.inr (fun _ => none))))))] H := hP
  have hD : va_D A [(h0, .inr (3, [.null, .null, .null, .null, .int 0, .int 0, .int 0])), (q1, .inl (g.2.1 4, 4, .inr (.inr (.inr (.inr (fun _ => none))))))] := hD
  refine va_putF (C := RX3) (T := TX3) (N := 7) hx hb hts iX3 tyX3 tyX3_ok nmX3 hown hK hP hD hS 0 rfl rfl 0 (Nat.le_of_ble_eq_true rfl) (hts _ fl_X3_11) (fun _ h => h) rfl hin rfl (ty := .array (.object "Hearingpay$Interpreter")) (tyX3_ok 0 (by decide)) rfl rfl (Nat.le_of_ble_eq_true rfl) dX3_init_9 (fun H locs hP hD hS => ?_)
  have hP : va_P g.1 vwCl [(h0, .inr (3, [.ref q1, .null, .null, .null, .int 0, .int 0, .int 0])), (q1, .inl (g.2.1 4, 4, .inr (.inr (.inr (.inr (fun _ => none))))))] H := hP
  have hD : va_D A [(h0, .inr (3, [.ref q1, .null, .null, .null, .int 0, .int 0, .int 0])), (q1, .inl (g.2.1 4, 4, .inr (.inr (.inr (.inr (fun _ => none))))))] := hD
  refine lv_aload_n hx hb dX3_init_12 rfl (lv_at hl 0 rfl) ?_
  refine lv_bipush (v := 6) hx hb dX3_init_13 (by decide) ?_
  refine va_newa (atype := .boolean) (N' := 6) (a0 := (6, .inl (fun _ => 0))) hx hb (hts _ ac_bool) rfl hK hP hD hS hA (fun _ => rfl) (by decide) (by decide) (Nat.le_of_ble_eq_true rfl) (Nat.le_of_ble_eq_true rfl) (Nat.le_of_ble_eq_true rfl) dX3_init_15 (fun q2 cA H hK1 hP hD hS => ?_)
  obtain rfl : cA = g.2.1 1 := ty_eq hK1 1 rfl
  have hP : va_P g.1 vwCl [(h0, .inr (3, [.ref q1, .null, .null, .null, .int 0, .int 0, .int 0])), (q1, .inl (g.2.1 4, 4, .inr (.inr (.inr (.inr (fun _ => none)))))), (q2, .inl (g.2.1 1, 6, .inl (fun _ => 0)))] H := hP
  have hD : va_D A [(h0, .inr (3, [.ref q1, .null, .null, .null, .int 0, .int 0, .int 0])), (q1, .inl (g.2.1 4, 4, .inr (.inr (.inr (.inr (fun _ => none)))))), (q2, .inl (g.2.1 1, 6, .inl (fun _ => 0)))] := hD
  refine va_putF (C := RX3) (T := TX3) (N := 7) hx hb hts iX3 tyX3 tyX3_ok nmX3 hown hK hP hD hS 0 rfl rfl 1 (Nat.le_of_ble_eq_true rfl) (hts _ fl_X3_15) (fun _ h => h) rfl hin rfl (ty := .array .boolean) (tyX3_ok 1 (by decide)) rfl rfl (Nat.le_of_ble_eq_true rfl) dX3_init_17 (fun H locs hP hD hS => ?_)
  have hP : va_P g.1 vwCl [(h0, .inr (3, [.ref q1, .ref q2, .null, .null, .int 0, .int 0, .int 0])), (q1, .inl (g.2.1 4, 4, .inr (.inr (.inr (.inr (fun _ => none)))))), (q2, .inl (g.2.1 1, 6, .inl (fun _ => 0)))] H := hP
  have hD : va_D A [(h0, .inr (3, [.ref q1, .ref q2, .null, .null, .int 0, .int 0, .int 0])), (q1, .inl (g.2.1 4, 4, .inr (.inr (.inr (.inr (fun _ => none)))))), (q2, .inl (g.2.1 1, 6, .inl (fun _ => 0)))] := hD
  refine lv_aload_n hx hb dX3_init_20 rfl (lv_at hl 0 rfl) ?_
  refine lv_bipush (v := 12) hx hb dX3_init_21 (by decide) ?_
  refine va_newq (C := RX2) (N' := 12) hx hb hown (hts _ cl_X3_19) hoX2 hK hP hD hS hA (by decide) (by decide) (Nat.le_of_ble_eq_true rfl) (Nat.le_of_ble_eq_true rfl) (Nat.le_of_ble_eq_true rfl) dX3_init_23 (fun q3 cA H hK1 hP hD hS => ?_)
  obtain rfl : cA = g.2.1 2 := ty_eq hK1 2 rfl
  have hP : va_P g.1 vwCl [(h0, .inr (3, [.ref q1, .ref q2, .null, .null, .int 0, .int 0, .int 0])), (q1, .inl (g.2.1 4, 4, .inr (.inr (.inr (.inr (fun _ => none)))))), (q2, .inl (g.2.1 1, 6, .inl (fun _ => 0))), (q3, .inl (g.2.1 2, 12, .inr (.inr (.inr (.inr (fun _ => none))))))] H := hP
  have hD : va_D A [(h0, .inr (3, [.ref q1, .ref q2, .null, .null, .int 0, .int 0, .int 0])), (q1, .inl (g.2.1 4, 4, .inr (.inr (.inr (.inr (fun _ => none)))))), (q2, .inl (g.2.1 1, 6, .inl (fun _ => 0))), (q3, .inl (g.2.1 2, 12, .inr (.inr (.inr (.inr (fun _ => none))))))] := hD
  refine va_putF (C := RX3) (T := TX3) (N := 7) hx hb hts iX3 tyX3 tyX3_ok nmX3 hown hK hP hD hS 0 rfl rfl 2 (Nat.le_of_ble_eq_true rfl) (hts _ fl_X3_21) (fun _ h => h) rfl hin rfl (ty := .array (.object "Hearingpay$Matter")) (tyX3_ok 2 (by decide)) rfl rfl (Nat.le_of_ble_eq_true rfl) dX3_init_26 (fun H locs hP hD hS => ?_)
  have hP : va_P g.1 vwCl [(h0, .inr (3, [.ref q1, .ref q2, .ref q3, .null, .int 0, .int 0, .int 0])), (q1, .inl (g.2.1 4, 4, .inr (.inr (.inr (.inr (fun _ => none)))))), (q2, .inl (g.2.1 1, 6, .inl (fun _ => 0))), (q3, .inl (g.2.1 2, 12, .inr (.inr (.inr (.inr (fun _ => none))))))] H := hP
  have hD : va_D A [(h0, .inr (3, [.ref q1, .ref q2, .ref q3, .null, .int 0, .int 0, .int 0])), (q1, .inl (g.2.1 4, 4, .inr (.inr (.inr (.inr (fun _ => none)))))), (q2, .inl (g.2.1 1, 6, .inl (fun _ => 0))), (q3, .inl (g.2.1 2, 12, .inr (.inr (.inr (.inr (fun _ => none))))))] := hD
  refine lv_aload_n hx hb dX3_init_29 rfl (lv_at hl 0 rfl) ?_
  refine lv_bipush (v := 24) hx hb dX3_init_30 (by decide) ?_
  refine va_newq (C := RX0) (N' := 24) hx hb hown (hts _ cl_X3_25) hoX0 hK hP hD hS hA (by decide) (by decide) (Nat.le_of_ble_eq_true rfl) (Nat.le_of_ble_eq_true rfl) (Nat.le_of_ble_eq_true rfl) dX3_init_32 (fun q4 cA H hK1 hP hD hS => ?_)
  obtain rfl : cA = g.2.1 3 := ty_eq hK1 3 rfl
  have hP : va_P g.1 vwCl [(h0, .inr (3, [.ref q1, .ref q2, .ref q3, .null, .int 0, .int 0, .int 0])), (q1, .inl (g.2.1 4, 4, .inr (.inr (.inr (.inr (fun _ => none)))))), (q2, .inl (g.2.1 1, 6, .inl (fun _ => 0))), (q3, .inl (g.2.1 2, 12, .inr (.inr (.inr (.inr (fun _ => none)))))), (q4, .inl (g.2.1 3, 24, .inr (.inr (.inr (.inr (fun _ => none))))))] H := hP
  have hD : va_D A [(h0, .inr (3, [.ref q1, .ref q2, .ref q3, .null, .int 0, .int 0, .int 0])), (q1, .inl (g.2.1 4, 4, .inr (.inr (.inr (.inr (fun _ => none)))))), (q2, .inl (g.2.1 1, 6, .inl (fun _ => 0))), (q3, .inl (g.2.1 2, 12, .inr (.inr (.inr (.inr (fun _ => none)))))), (q4, .inl (g.2.1 3, 24, .inr (.inr (.inr (.inr (fun _ => none))))))] := hD
  refine va_putF (C := RX3) (T := TX3) (N := 7) hx hb hts iX3 tyX3 tyX3_ok nmX3 hown hK hP hD hS 0 rfl rfl 3 (Nat.le_of_ble_eq_true rfl) (hts _ fl_X3_27) (fun _ h => h) rfl hin rfl (ty := .array (.object "Hearingpay$Hearing")) (tyX3_ok 3 (by decide)) rfl rfl (Nat.le_of_ble_eq_true rfl) dX3_init_35 (fun H locs hP hD hS => ?_)
  have hP : va_P g.1 vwCl [(h0, .inr (3, [.ref q1, .ref q2, .ref q3, .ref q4, .int 0, .int 0, .int 0])), (q1, .inl (g.2.1 4, 4, .inr (.inr (.inr (.inr (fun _ => none)))))), (q2, .inl (g.2.1 1, 6, .inl (fun _ => 0))), (q3, .inl (g.2.1 2, 12, .inr (.inr (.inr (.inr (fun _ => none)))))), (q4, .inl (g.2.1 3, 24, .inr (.inr (.inr (.inr (fun _ => none))))))] H := hP
  have hD : va_D A [(h0, .inr (3, [.ref q1, .ref q2, .ref q3, .ref q4, .int 0, .int 0, .int 0])), (q1, .inl (g.2.1 4, 4, .inr (.inr (.inr (.inr (fun _ => none)))))), (q2, .inl (g.2.1 1, 6, .inl (fun _ => 0))), (q3, .inl (g.2.1 2, 12, .inr (.inr (.inr (.inr (fun _ => none)))))), (q4, .inl (g.2.1 3, 24, .inr (.inr (.inr (.inr (fun _ => none))))))] := hD
  refine lv_aload_n hx hb dX3_init_38 rfl (lv_at hl 0 rfl) ?_
  refine lv_iconst (v := 0) hx hb dX3_init_39 (by decide) ?_
  refine va_put (C := RX3) (T := TX3) (N := 7) hx hb hts iX3 tyX3 tyX3_ok nmX3 hown hK hP hD hS 0 rfl rfl 4 (Nat.le_of_ble_eq_true rfl) (hts _ fl_X3_31) (fun _ h => h) rfl (ty := .int) (tyX3_ok 4 (by decide)) rfl rfl (Nat.le_of_ble_eq_true rfl) dX3_init_40 (fun H locs hP hD hS => ?_)
  have hP : va_P g.1 vwCl [(h0, .inr (3, [.ref q1, .ref q2, .ref q3, .ref q4, .int 0, .int 0, .int 0])), (q1, .inl (g.2.1 4, 4, .inr (.inr (.inr (.inr (fun _ => none)))))), (q2, .inl (g.2.1 1, 6, .inl (fun _ => 0))), (q3, .inl (g.2.1 2, 12, .inr (.inr (.inr (.inr (fun _ => none)))))), (q4, .inl (g.2.1 3, 24, .inr (.inr (.inr (.inr (fun _ => none))))))] H := hP
  have hD : va_D A [(h0, .inr (3, [.ref q1, .ref q2, .ref q3, .ref q4, .int 0, .int 0, .int 0])), (q1, .inl (g.2.1 4, 4, .inr (.inr (.inr (.inr (fun _ => none)))))), (q2, .inl (g.2.1 1, 6, .inl (fun _ => 0))), (q3, .inl (g.2.1 2, 12, .inr (.inr (.inr (.inr (fun _ => none)))))), (q4, .inl (g.2.1 3, 24, .inr (.inr (.inr (.inr (fun _ => none))))))] := hD
  refine lv_aload_n hx hb dX3_init_43 rfl (lv_at hl 0 rfl) ?_
  refine lv_iconst (v := 0) hx hb dX3_init_44 (by decide) ?_
  refine va_put (C := RX3) (T := TX3) (N := 7) hx hb hts iX3 tyX3 tyX3_ok nmX3 hown hK hP hD hS 0 rfl rfl 5 (Nat.le_of_ble_eq_true rfl) (hts _ fl_X3_35) (fun _ h => h) rfl (ty := .int) (tyX3_ok 5 (by decide)) rfl rfl (Nat.le_of_ble_eq_true rfl) dX3_init_45 (fun H locs hP hD hS => ?_)
  have hP : va_P g.1 vwCl [(h0, .inr (3, [.ref q1, .ref q2, .ref q3, .ref q4, .int 0, .int 0, .int 0])), (q1, .inl (g.2.1 4, 4, .inr (.inr (.inr (.inr (fun _ => none)))))), (q2, .inl (g.2.1 1, 6, .inl (fun _ => 0))), (q3, .inl (g.2.1 2, 12, .inr (.inr (.inr (.inr (fun _ => none)))))), (q4, .inl (g.2.1 3, 24, .inr (.inr (.inr (.inr (fun _ => none))))))] H := hP
  have hD : va_D A [(h0, .inr (3, [.ref q1, .ref q2, .ref q3, .ref q4, .int 0, .int 0, .int 0])), (q1, .inl (g.2.1 4, 4, .inr (.inr (.inr (.inr (fun _ => none)))))), (q2, .inl (g.2.1 1, 6, .inl (fun _ => 0))), (q3, .inl (g.2.1 2, 12, .inr (.inr (.inr (.inr (fun _ => none)))))), (q4, .inl (g.2.1 3, 24, .inr (.inr (.inr (.inr (fun _ => none))))))] := hD
  refine lv_aload_n hx hb dX3_init_48 rfl (lv_at hl 0 rfl) ?_
  refine lv_iconst (v := 0) hx hb dX3_init_49 (by decide) ?_
  refine va_put (C := RX3) (T := TX3) (N := 7) hx hb hts iX3 tyX3 tyX3_ok nmX3 hown hK hP hD hS 0 rfl rfl 6 (Nat.le_of_ble_eq_true rfl) (hts _ fl_X3_38) (fun _ h => h) rfl (ty := .int) (tyX3_ok 6 (by decide)) rfl rfl (Nat.le_of_ble_eq_true rfl) dX3_init_50 (fun H locs hP hD hS => ?_)
  have hP : va_P g.1 vwCl [(h0, .inr (3, [.ref q1, .ref q2, .ref q3, .ref q4, .int 0, .int 0, .int 0])), (q1, .inl (g.2.1 4, 4, .inr (.inr (.inr (.inr (fun _ => none)))))), (q2, .inl (g.2.1 1, 6, .inl (fun _ => 0))), (q3, .inl (g.2.1 2, 12, .inr (.inr (.inr (.inr (fun _ => none)))))), (q4, .inl (g.2.1 3, 24, .inr (.inr (.inr (.inr (fun _ => none))))))] H := hP
  have hD : va_D A [(h0, .inr (3, [.ref q1, .ref q2, .ref q3, .ref q4, .int 0, .int 0, .int 0])), (q1, .inl (g.2.1 4, 4, .inr (.inr (.inr (.inr (fun _ => none)))))), (q2, .inl (g.2.1 1, 6, .inl (fun _ => 0))), (q3, .inl (g.2.1 2, 12, .inr (.inr (.inr (.inr (fun _ => none)))))), (q4, .inl (g.2.1 3, 24, .inr (.inr (.inr (.inr (fun _ => none))))))] := hD
  refine lv_iconst (v := 0) hx hb dX3_init_53 (by decide) ?_
  refine lv_istore_n (lv' := [(1, .int 0), (0, .ref h0)]) hx hb dX3_init_54 rfl hl (by decide) rfl (fun ls hl => ?_)
  refine lv_iload_n hx hb dX3_init_55 rfl (lv_at hl 0 rfl) ?_
  refine lv_aload_n hx hb dX3_init_56 rfl (lv_at hl 1 rfl) ?_
  refine va_get (C := RX3) (T := TX3) (N := 7) hx hb hts iX3 hown hK hP 0 rfl rfl 0 (Nat.le_of_ble_eq_true rfl) (hts _ fl_X3_11) (fun _ h => h) rfl dX3_init_57 ?_
  refine va_alen (v := 4) hx hb hK hP 1 4 rfl rfl rfl dX3_init_60 ?_
  refine lv_icmp_ge (tgt := 83) hx hb dX3_init_61 (by decide) (fun h => absurd h (by decide)) (fun _ => ?_)
  refine lv_aload_n hx hb dX3_init_64 rfl (lv_at hl 1 rfl) ?_
  refine va_get (C := RX3) (T := TX3) (N := 7) hx hb hts iX3 hown hK hP 0 rfl rfl 0 (Nat.le_of_ble_eq_true rfl) (hts _ fl_X3_11) (fun _ h => h) rfl dX3_init_65 ?_
  refine lv_iload_n hx hb dX3_init_68 rfl (lv_at hl 0 rfl) ?_
  refine va_new (ci := 1) (fs := [.int 0, .int 0, .null, .null, .null]) (C := RX1) (T := TX1) (N := 5) hx hb hts iX1 tyX1 tyX1_ok hown (hts _ cl_X3_9) (hts _ is_X1) (hts _ ni_X1) hK hP hD hS hA rfl (fun j hj => by rcases (show j = 0 ∨ j = 1 ∨ j = 2 ∨ j = 3 ∨ j = 4 by omega) with rfl | rfl | rfl | rfl | rfl <;> rfl) (Nat.le_of_ble_eq_true rfl) (Nat.le_of_ble_eq_true rfl) dX3_init_69 (fun q5 H hP hD hS => ?_)
  have hP : va_P g.1 vwCl [(h0, .inr (3, [.ref q1, .ref q2, .ref q3, .ref q4, .int 0, .int 0, .int 0])), (q1, .inl (g.2.1 4, 4, .inr (.inr (.inr (.inr (fun _ => none)))))), (q2, .inl (g.2.1 1, 6, .inl (fun _ => 0))), (q3, .inl (g.2.1 2, 12, .inr (.inr (.inr (.inr (fun _ => none)))))), (q4, .inl (g.2.1 3, 24, .inr (.inr (.inr (.inr (fun _ => none)))))), (q5, .inr (1, [.int 0, .int 0, .null, .null, .null]))] H := hP
  have hD : va_D A [(h0, .inr (3, [.ref q1, .ref q2, .ref q3, .ref q4, .int 0, .int 0, .int 0])), (q1, .inl (g.2.1 4, 4, .inr (.inr (.inr (.inr (fun _ => none)))))), (q2, .inl (g.2.1 1, 6, .inl (fun _ => 0))), (q3, .inl (g.2.1 2, 12, .inr (.inr (.inr (.inr (fun _ => none)))))), (q4, .inl (g.2.1 3, 24, .inr (.inr (.inr (.inr (fun _ => none)))))), (q5, .inr (1, [.int 0, .int 0, .null, .null, .null]))] := hD
  refine lv_dup hx hb dX3_init_72 rfl ?_
  have hPc := hP.sub (ws' := [(q5, .inr (1, [.int 0, .int 0, .null, .null, .null]))]) [5] rfl
  have hDc := hD.sub (ws' := [(q5, .inr (1, [.int 0, .int 0, .null, .null, .null]))]) [5] (by decide) rfl
  have hFc := va_free (wc := [(q5, .inr (1, [.int 0, .int 0, .null, .null, .null]))]) hD hS hA [5] rfl
  refine va_callv (va_runIN (As := []) (rest := [.ref q5, .int 0, .ref q1]) ⟨hx, hb, hml, hown, hts⟩ (c_X1_init l g q5 H.size) ⟨va_cnB 0 hts (fun w hw => by rcases List.mem_cons.mp hw with rfl | hw; exact wAll_self _ co_X1; exact wAll_self w hw) rfl rfl rfl hnest (hts _ ni_X1) (by decide +kernel) ⟨Nat.le_of_ble_eq_true rfl, Nat.le_of_ble_eq_true rfl⟩, rfl, hts _ im_X1⟩ ⟨fun a U f mk q => by obtain ⟨q0, q1, qP, qK, qD, qO⟩ := q; exact ⟨q0, q1, qP, va_K.moved (u := U) (U := U.calling f mk a) (Vm.Alike.refl U.vm) qK, qD, va_AO.moved (u := U) (U := U.calling f mk a) (Vm.Alike.refl U.vm) qO⟩, fun U hU hW => ⟨rfl, by rw [hU], by rw [hU]; exact hPc, va_K.moved hW.alike hK, hDc.weaken (fun _ _ _ _ => trivial), va_AO.moved hW.alike hoX2⟩⟩ rfl rfl hl.1 rfl (lv_room (Nat.le_of_ble_eq_true rfl)) dX3_init_73 ⟨Nat.le_of_ble_eq_true rfl, Nat.le_of_ble_eq_true rfl⟩) hS (fun q _ h => hFc q h) hFc (fun u t H1 locs ht hvm hw hB hz1 hk1 hS => ?_)
  obtain ⟨hP1, hD1⟩ := hB
  rw [ht] at hP1
  generalize hu : u = u6 at hP1 hD1
  obtain ⟨hP, hD⟩ := va_join (wr := [(h0, .inr (3, [.ref q1, .ref q2, .ref q3, .ref q4, .int 0, .int 0, .int 0])), (q1, .inl (g.2.1 4, 4, .inr (.inr (.inr (.inr (fun _ => none)))))), (q2, .inl (g.2.1 1, 6, .inl (fun _ => 0))), (q3, .inl (g.2.1 2, 12, .inr (.inr (.inr (.inr (fun _ => none)))))), (q4, .inl (g.2.1 3, 24, .inr (.inr (.inr (.inr (fun _ => none))))))]) (w1 := [(q5, .inr (1, [.int 0, .int 10, .ref (u6 0), .ref (u6 1), .ref (u6 2)])), (u6 0, .inl (g.2.1 0, 16, .inl (fun _ => 0))), (u6 1, .inl (g.2.1 2, 16, .inr (.inr (.inr (.inr (fun _ => none)))))), (u6 2, .inl (g.2.1 0, 16, .inl (fun _ => 0)))]) hP hD [5] [0, 1, 2, 3, 4] rfl rfl (by decide) (by decide) hk1 hFc hP1 hD1
  generalize H1 = H at hP hS ⊢
  have hP : va_P g.1 vwCl [(h0, .inr (3, [.ref q1, .ref q2, .ref q3, .ref q4, .int 0, .int 0, .int 0])), (q1, .inl (g.2.1 4, 4, .inr (.inr (.inr (.inr (fun _ => none)))))), (q2, .inl (g.2.1 1, 6, .inl (fun _ => 0))), (q3, .inl (g.2.1 2, 12, .inr (.inr (.inr (.inr (fun _ => none)))))), (q4, .inl (g.2.1 3, 24, .inr (.inr (.inr (.inr (fun _ => none)))))), (q5, .inr (1, [.int 0, .int 10, .ref (u6 0), .ref (u6 1), .ref (u6 2)])), (u6 0, .inl (g.2.1 0, 16, .inl (fun _ => 0))), (u6 1, .inl (g.2.1 2, 16, .inr (.inr (.inr (.inr (fun _ => none)))))), (u6 2, .inl (g.2.1 0, 16, .inl (fun _ => 0)))] H := hP
  have hD : va_D A [(h0, .inr (3, [.ref q1, .ref q2, .ref q3, .ref q4, .int 0, .int 0, .int 0])), (q1, .inl (g.2.1 4, 4, .inr (.inr (.inr (.inr (fun _ => none)))))), (q2, .inl (g.2.1 1, 6, .inl (fun _ => 0))), (q3, .inl (g.2.1 2, 12, .inr (.inr (.inr (.inr (fun _ => none)))))), (q4, .inl (g.2.1 3, 24, .inr (.inr (.inr (.inr (fun _ => none)))))), (q5, .inr (1, [.int 0, .int 10, .ref (u6 0), .ref (u6 1), .ref (u6 2)])), (u6 0, .inl (g.2.1 0, 16, .inl (fun _ => 0))), (u6 1, .inl (g.2.1 2, 16, .inr (.inr (.inr (.inr (fun _ => none)))))), (u6 2, .inl (g.2.1 0, 16, .inl (fun _ => 0)))] := hD
  refine va_astq hx hb hK hP hD hS 1 4 5 1 rfl rfl rfl rfl (by unfold vp_in; decide) dX3_init_76 (fun H locs hP hD hS => ?_)
  rw [show (0 : Int32).toNatClampNeg = 0 from by decide] at hP hD
  have hP : va_P g.1 vwCl [(h0, .inr (3, [.ref q1, .ref q2, .ref q3, .ref q4, .int 0, .int 0, .int 0])), (q1, .inl (g.2.1 4, 4, .inr (.inr (.inr (.inr (va_up (fun _ => none) 0 (some q5))))))), (q2, .inl (g.2.1 1, 6, .inl (fun _ => 0))), (q3, .inl (g.2.1 2, 12, .inr (.inr (.inr (.inr (fun _ => none)))))), (q4, .inl (g.2.1 3, 24, .inr (.inr (.inr (.inr (fun _ => none)))))), (q5, .inr (1, [.int 0, .int 10, .ref (u6 0), .ref (u6 1), .ref (u6 2)])), (u6 0, .inl (g.2.1 0, 16, .inl (fun _ => 0))), (u6 1, .inl (g.2.1 2, 16, .inr (.inr (.inr (.inr (fun _ => none)))))), (u6 2, .inl (g.2.1 0, 16, .inl (fun _ => 0)))] H := hP
  have hD : va_D A [(h0, .inr (3, [.ref q1, .ref q2, .ref q3, .ref q4, .int 0, .int 0, .int 0])), (q1, .inl (g.2.1 4, 4, .inr (.inr (.inr (.inr (va_up (fun _ => none) 0 (some q5))))))), (q2, .inl (g.2.1 1, 6, .inl (fun _ => 0))), (q3, .inl (g.2.1 2, 12, .inr (.inr (.inr (.inr (fun _ => none)))))), (q4, .inl (g.2.1 3, 24, .inr (.inr (.inr (.inr (fun _ => none)))))), (q5, .inr (1, [.int 0, .int 10, .ref (u6 0), .ref (u6 1), .ref (u6 2)])), (u6 0, .inl (g.2.1 0, 16, .inl (fun _ => 0))), (u6 1, .inl (g.2.1 2, 16, .inr (.inr (.inr (.inr (fun _ => none)))))), (u6 2, .inl (g.2.1 0, 16, .inl (fun _ => 0)))] := hD
  refine lv_iinc (v := 1) (lv' := [(1, .int 1), (0, .ref h0)]) hx hb dX3_init_77 hl (k := 0) rfl (by decide) (by decide) rfl (fun ls hl => ?_)
  refine lv_goto (tgt := 55) hx hb dX3_init_80 (by decide) ?_
  refine lv_iload_n hx hb dX3_init_55 rfl (lv_at hl 0 rfl) ?_
  refine lv_aload_n hx hb dX3_init_56 rfl (lv_at hl 1 rfl) ?_
  refine va_get (C := RX3) (T := TX3) (N := 7) hx hb hts iX3 hown hK hP 0 rfl rfl 0 (Nat.le_of_ble_eq_true rfl) (hts _ fl_X3_11) (fun _ h => h) rfl dX3_init_57 ?_
  refine va_alen (v := 4) hx hb hK hP 1 4 rfl rfl rfl dX3_init_60 ?_
  refine lv_icmp_ge (tgt := 83) hx hb dX3_init_61 (by decide) (fun h => absurd h (by decide)) (fun _ => ?_)
  refine lv_aload_n hx hb dX3_init_64 rfl (lv_at hl 1 rfl) ?_
  refine va_get (C := RX3) (T := TX3) (N := 7) hx hb hts iX3 hown hK hP 0 rfl rfl 0 (Nat.le_of_ble_eq_true rfl) (hts _ fl_X3_11) (fun _ h => h) rfl dX3_init_65 ?_
  refine lv_iload_n hx hb dX3_init_68 rfl (lv_at hl 0 rfl) ?_
  refine va_new (ci := 1) (fs := [.int 0, .int 0, .null, .null, .null]) (C := RX1) (T := TX1) (N := 5) hx hb hts iX1 tyX1 tyX1_ok hown (hts _ cl_X3_9) (hts _ is_X1) (hts _ ni_X1) hK hP hD hS hA rfl (fun j hj => by rcases (show j = 0 ∨ j = 1 ∨ j = 2 ∨ j = 3 ∨ j = 4 by omega) with rfl | rfl | rfl | rfl | rfl <;> rfl) (Nat.le_of_ble_eq_true rfl) (Nat.le_of_ble_eq_true rfl) dX3_init_69 (fun q7 H hP hD hS => ?_)
  have hP : va_P g.1 vwCl [(h0, .inr (3, [.ref q1, .ref q2, .ref q3, .ref q4, .int 0, .int 0, .int 0])), (q1, .inl (g.2.1 4, 4, .inr (.inr (.inr (.inr (va_up (fun _ => none) 0 (some q5))))))), (q2, .inl (g.2.1 1, 6, .inl (fun _ => 0))), (q3, .inl (g.2.1 2, 12, .inr (.inr (.inr (.inr (fun _ => none)))))), (q4, .inl (g.2.1 3, 24, .inr (.inr (.inr (.inr (fun _ => none)))))), (q5, .inr (1, [.int 0, .int 10, .ref (u6 0), .ref (u6 1), .ref (u6 2)])), (u6 0, .inl (g.2.1 0, 16, .inl (fun _ => 0))), (u6 1, .inl (g.2.1 2, 16, .inr (.inr (.inr (.inr (fun _ => none)))))), (u6 2, .inl (g.2.1 0, 16, .inl (fun _ => 0))), (q7, .inr (1, [.int 0, .int 0, .null, .null, .null]))] H := hP
  have hD : va_D A [(h0, .inr (3, [.ref q1, .ref q2, .ref q3, .ref q4, .int 0, .int 0, .int 0])), (q1, .inl (g.2.1 4, 4, .inr (.inr (.inr (.inr (va_up (fun _ => none) 0 (some q5))))))), (q2, .inl (g.2.1 1, 6, .inl (fun _ => 0))), (q3, .inl (g.2.1 2, 12, .inr (.inr (.inr (.inr (fun _ => none)))))), (q4, .inl (g.2.1 3, 24, .inr (.inr (.inr (.inr (fun _ => none)))))), (q5, .inr (1, [.int 0, .int 10, .ref (u6 0), .ref (u6 1), .ref (u6 2)])), (u6 0, .inl (g.2.1 0, 16, .inl (fun _ => 0))), (u6 1, .inl (g.2.1 2, 16, .inr (.inr (.inr (.inr (fun _ => none)))))), (u6 2, .inl (g.2.1 0, 16, .inl (fun _ => 0))), (q7, .inr (1, [.int 0, .int 0, .null, .null, .null]))] := hD
  refine lv_dup hx hb dX3_init_72 rfl ?_
  have hPc := hP.sub (ws' := [(q7, .inr (1, [.int 0, .int 0, .null, .null, .null]))]) [9] rfl
  have hDc := hD.sub (ws' := [(q7, .inr (1, [.int 0, .int 0, .null, .null, .null]))]) [9] (by decide) rfl
  have hFc := va_free (wc := [(q7, .inr (1, [.int 0, .int 0, .null, .null, .null]))]) hD hS hA [9] rfl
  refine va_callv (va_runIN (As := []) (rest := [.ref q7, .int 1, .ref q1]) ⟨hx, hb, hml, hown, hts⟩ (c_X1_init l g q7 H.size) ⟨va_cnB 0 hts (fun w hw => by rcases List.mem_cons.mp hw with rfl | hw; exact wAll_self _ co_X1; exact wAll_self w hw) rfl rfl rfl hnest (hts _ ni_X1) (by decide +kernel) ⟨Nat.le_of_ble_eq_true rfl, Nat.le_of_ble_eq_true rfl⟩, rfl, hts _ im_X1⟩ ⟨fun a U f mk q => by obtain ⟨q0, q1, qP, qK, qD, qO⟩ := q; exact ⟨q0, q1, qP, va_K.moved (u := U) (U := U.calling f mk a) (Vm.Alike.refl U.vm) qK, qD, va_AO.moved (u := U) (U := U.calling f mk a) (Vm.Alike.refl U.vm) qO⟩, fun U hU hW => ⟨rfl, by rw [hU], by rw [hU]; exact hPc, va_K.moved hW.alike hK, hDc.weaken (fun _ _ _ _ => trivial), va_AO.moved hW.alike hoX2⟩⟩ rfl rfl hl.1 rfl (lv_room (Nat.le_of_ble_eq_true rfl)) dX3_init_73 ⟨Nat.le_of_ble_eq_true rfl, Nat.le_of_ble_eq_true rfl⟩) hS (fun q _ h => hFc q h) hFc (fun u t H1 locs ht hvm hw hB hz1 hk1 hS => ?_)
  obtain ⟨hP1, hD1⟩ := hB
  rw [ht] at hP1
  generalize hu : u = u8 at hP1 hD1
  obtain ⟨hP, hD⟩ := va_join (wr := [(h0, .inr (3, [.ref q1, .ref q2, .ref q3, .ref q4, .int 0, .int 0, .int 0])), (q1, .inl (g.2.1 4, 4, .inr (.inr (.inr (.inr (va_up (fun _ => none) 0 (some q5))))))), (q2, .inl (g.2.1 1, 6, .inl (fun _ => 0))), (q3, .inl (g.2.1 2, 12, .inr (.inr (.inr (.inr (fun _ => none)))))), (q4, .inl (g.2.1 3, 24, .inr (.inr (.inr (.inr (fun _ => none)))))), (q5, .inr (1, [.int 0, .int 10, .ref (u6 0), .ref (u6 1), .ref (u6 2)])), (u6 0, .inl (g.2.1 0, 16, .inl (fun _ => 0))), (u6 1, .inl (g.2.1 2, 16, .inr (.inr (.inr (.inr (fun _ => none)))))), (u6 2, .inl (g.2.1 0, 16, .inl (fun _ => 0)))]) (w1 := [(q7, .inr (1, [.int 0, .int 10, .ref (u8 0), .ref (u8 1), .ref (u8 2)])), (u8 0, .inl (g.2.1 0, 16, .inl (fun _ => 0))), (u8 1, .inl (g.2.1 2, 16, .inr (.inr (.inr (.inr (fun _ => none)))))), (u8 2, .inl (g.2.1 0, 16, .inl (fun _ => 0)))]) hP hD [9] [0, 1, 2, 3, 4, 5, 6, 7, 8] rfl rfl (by decide) (by decide) hk1 hFc hP1 hD1
  generalize H1 = H at hP hS ⊢
  have hP : va_P g.1 vwCl [(h0, .inr (3, [.ref q1, .ref q2, .ref q3, .ref q4, .int 0, .int 0, .int 0])), (q1, .inl (g.2.1 4, 4, .inr (.inr (.inr (.inr (va_up (fun _ => none) 0 (some q5))))))), (q2, .inl (g.2.1 1, 6, .inl (fun _ => 0))), (q3, .inl (g.2.1 2, 12, .inr (.inr (.inr (.inr (fun _ => none)))))), (q4, .inl (g.2.1 3, 24, .inr (.inr (.inr (.inr (fun _ => none)))))), (q5, .inr (1, [.int 0, .int 10, .ref (u6 0), .ref (u6 1), .ref (u6 2)])), (u6 0, .inl (g.2.1 0, 16, .inl (fun _ => 0))), (u6 1, .inl (g.2.1 2, 16, .inr (.inr (.inr (.inr (fun _ => none)))))), (u6 2, .inl (g.2.1 0, 16, .inl (fun _ => 0))), (q7, .inr (1, [.int 0, .int 10, .ref (u8 0), .ref (u8 1), .ref (u8 2)])), (u8 0, .inl (g.2.1 0, 16, .inl (fun _ => 0))), (u8 1, .inl (g.2.1 2, 16, .inr (.inr (.inr (.inr (fun _ => none)))))), (u8 2, .inl (g.2.1 0, 16, .inl (fun _ => 0)))] H := hP
  have hD : va_D A [(h0, .inr (3, [.ref q1, .ref q2, .ref q3, .ref q4, .int 0, .int 0, .int 0])), (q1, .inl (g.2.1 4, 4, .inr (.inr (.inr (.inr (va_up (fun _ => none) 0 (some q5))))))), (q2, .inl (g.2.1 1, 6, .inl (fun _ => 0))), (q3, .inl (g.2.1 2, 12, .inr (.inr (.inr (.inr (fun _ => none)))))), (q4, .inl (g.2.1 3, 24, .inr (.inr (.inr (.inr (fun _ => none)))))), (q5, .inr (1, [.int 0, .int 10, .ref (u6 0), .ref (u6 1), .ref (u6 2)])), (u6 0, .inl (g.2.1 0, 16, .inl (fun _ => 0))), (u6 1, .inl (g.2.1 2, 16, .inr (.inr (.inr (.inr (fun _ => none)))))), (u6 2, .inl (g.2.1 0, 16, .inl (fun _ => 0))), (q7, .inr (1, [.int 0, .int 10, .ref (u8 0), .ref (u8 1), .ref (u8 2)])), (u8 0, .inl (g.2.1 0, 16, .inl (fun _ => 0))), (u8 1, .inl (g.2.1 2, 16, .inr (.inr (.inr (.inr (fun _ => none)))))), (u8 2, .inl (g.2.1 0, 16, .inl (fun _ => 0)))] := hD
  refine va_astq hx hb hK hP hD hS 1 4 9 1 rfl rfl rfl rfl (by unfold vp_in; decide) dX3_init_76 (fun H locs hP hD hS => ?_)
  rw [show (1 : Int32).toNatClampNeg = 1 from by decide] at hP hD
  have hP : va_P g.1 vwCl [(h0, .inr (3, [.ref q1, .ref q2, .ref q3, .ref q4, .int 0, .int 0, .int 0])), (q1, .inl (g.2.1 4, 4, .inr (.inr (.inr (.inr (va_up (va_up (fun _ => none) 0 (some q5)) 1 (some q7))))))), (q2, .inl (g.2.1 1, 6, .inl (fun _ => 0))), (q3, .inl (g.2.1 2, 12, .inr (.inr (.inr (.inr (fun _ => none)))))), (q4, .inl (g.2.1 3, 24, .inr (.inr (.inr (.inr (fun _ => none)))))), (q5, .inr (1, [.int 0, .int 10, .ref (u6 0), .ref (u6 1), .ref (u6 2)])), (u6 0, .inl (g.2.1 0, 16, .inl (fun _ => 0))), (u6 1, .inl (g.2.1 2, 16, .inr (.inr (.inr (.inr (fun _ => none)))))), (u6 2, .inl (g.2.1 0, 16, .inl (fun _ => 0))), (q7, .inr (1, [.int 0, .int 10, .ref (u8 0), .ref (u8 1), .ref (u8 2)])), (u8 0, .inl (g.2.1 0, 16, .inl (fun _ => 0))), (u8 1, .inl (g.2.1 2, 16, .inr (.inr (.inr (.inr (fun _ => none)))))), (u8 2, .inl (g.2.1 0, 16, .inl (fun _ => 0)))] H := hP
  have hD : va_D A [(h0, .inr (3, [.ref q1, .ref q2, .ref q3, .ref q4, .int 0, .int 0, .int 0])), (q1, .inl (g.2.1 4, 4, .inr (.inr (.inr (.inr (va_up (va_up (fun _ => none) 0 (some q5)) 1 (some q7))))))), (q2, .inl (g.2.1 1, 6, .inl (fun _ => 0))), (q3, .inl (g.2.1 2, 12, .inr (.inr (.inr (.inr (fun _ => none)))))), (q4, .inl (g.2.1 3, 24, .inr (.inr (.inr (.inr (fun _ => none)))))), (q5, .inr (1, [.int 0, .int 10, .ref (u6 0), .ref (u6 1), .ref (u6 2)])), (u6 0, .inl (g.2.1 0, 16, .inl (fun _ => 0))), (u6 1, .inl (g.2.1 2, 16, .inr (.inr (.inr (.inr (fun _ => none)))))), (u6 2, .inl (g.2.1 0, 16, .inl (fun _ => 0))), (q7, .inr (1, [.int 0, .int 10, .ref (u8 0), .ref (u8 1), .ref (u8 2)])), (u8 0, .inl (g.2.1 0, 16, .inl (fun _ => 0))), (u8 1, .inl (g.2.1 2, 16, .inr (.inr (.inr (.inr (fun _ => none)))))), (u8 2, .inl (g.2.1 0, 16, .inl (fun _ => 0)))] := hD
  refine lv_iinc (v := 2) (lv' := [(1, .int 2), (0, .ref h0)]) hx hb dX3_init_77 hl (k := 0) rfl (by decide) (by decide) rfl (fun ls hl => ?_)
  refine lv_goto (tgt := 55) hx hb dX3_init_80 (by decide) ?_
  refine lv_iload_n hx hb dX3_init_55 rfl (lv_at hl 0 rfl) ?_
  refine lv_aload_n hx hb dX3_init_56 rfl (lv_at hl 1 rfl) ?_
  refine va_get (C := RX3) (T := TX3) (N := 7) hx hb hts iX3 hown hK hP 0 rfl rfl 0 (Nat.le_of_ble_eq_true rfl) (hts _ fl_X3_11) (fun _ h => h) rfl dX3_init_57 ?_
  refine va_alen (v := 4) hx hb hK hP 1 4 rfl rfl rfl dX3_init_60 ?_
  refine lv_icmp_ge (tgt := 83) hx hb dX3_init_61 (by decide) (fun h => absurd h (by decide)) (fun _ => ?_)
  refine lv_aload_n hx hb dX3_init_64 rfl (lv_at hl 1 rfl) ?_
  refine va_get (C := RX3) (T := TX3) (N := 7) hx hb hts iX3 hown hK hP 0 rfl rfl 0 (Nat.le_of_ble_eq_true rfl) (hts _ fl_X3_11) (fun _ h => h) rfl dX3_init_65 ?_
  refine lv_iload_n hx hb dX3_init_68 rfl (lv_at hl 0 rfl) ?_
  refine va_new (ci := 1) (fs := [.int 0, .int 0, .null, .null, .null]) (C := RX1) (T := TX1) (N := 5) hx hb hts iX1 tyX1 tyX1_ok hown (hts _ cl_X3_9) (hts _ is_X1) (hts _ ni_X1) hK hP hD hS hA rfl (fun j hj => by rcases (show j = 0 ∨ j = 1 ∨ j = 2 ∨ j = 3 ∨ j = 4 by omega) with rfl | rfl | rfl | rfl | rfl <;> rfl) (Nat.le_of_ble_eq_true rfl) (Nat.le_of_ble_eq_true rfl) dX3_init_69 (fun q9 H hP hD hS => ?_)
  have hP : va_P g.1 vwCl [(h0, .inr (3, [.ref q1, .ref q2, .ref q3, .ref q4, .int 0, .int 0, .int 0])), (q1, .inl (g.2.1 4, 4, .inr (.inr (.inr (.inr (va_up (va_up (fun _ => none) 0 (some q5)) 1 (some q7))))))), (q2, .inl (g.2.1 1, 6, .inl (fun _ => 0))), (q3, .inl (g.2.1 2, 12, .inr (.inr (.inr (.inr (fun _ => none)))))), (q4, .inl (g.2.1 3, 24, .inr (.inr (.inr (.inr (fun _ => none)))))), (q5, .inr (1, [.int 0, .int 10, .ref (u6 0), .ref (u6 1), .ref (u6 2)])), (u6 0, .inl (g.2.1 0, 16, .inl (fun _ => 0))), (u6 1, .inl (g.2.1 2, 16, .inr (.inr (.inr (.inr (fun _ => none)))))), (u6 2, .inl (g.2.1 0, 16, .inl (fun _ => 0))), (q7, .inr (1, [.int 0, .int 10, .ref (u8 0), .ref (u8 1), .ref (u8 2)])), (u8 0, .inl (g.2.1 0, 16, .inl (fun _ => 0))), (u8 1, .inl (g.2.1 2, 16, .inr (.inr (.inr (.inr (fun _ => none)))))), (u8 2, .inl (g.2.1 0, 16, .inl (fun _ => 0))), (q9, .inr (1, [.int 0, .int 0, .null, .null, .null]))] H := hP
  have hD : va_D A [(h0, .inr (3, [.ref q1, .ref q2, .ref q3, .ref q4, .int 0, .int 0, .int 0])), (q1, .inl (g.2.1 4, 4, .inr (.inr (.inr (.inr (va_up (va_up (fun _ => none) 0 (some q5)) 1 (some q7))))))), (q2, .inl (g.2.1 1, 6, .inl (fun _ => 0))), (q3, .inl (g.2.1 2, 12, .inr (.inr (.inr (.inr (fun _ => none)))))), (q4, .inl (g.2.1 3, 24, .inr (.inr (.inr (.inr (fun _ => none)))))), (q5, .inr (1, [.int 0, .int 10, .ref (u6 0), .ref (u6 1), .ref (u6 2)])), (u6 0, .inl (g.2.1 0, 16, .inl (fun _ => 0))), (u6 1, .inl (g.2.1 2, 16, .inr (.inr (.inr (.inr (fun _ => none)))))), (u6 2, .inl (g.2.1 0, 16, .inl (fun _ => 0))), (q7, .inr (1, [.int 0, .int 10, .ref (u8 0), .ref (u8 1), .ref (u8 2)])), (u8 0, .inl (g.2.1 0, 16, .inl (fun _ => 0))), (u8 1, .inl (g.2.1 2, 16, .inr (.inr (.inr (.inr (fun _ => none)))))), (u8 2, .inl (g.2.1 0, 16, .inl (fun _ => 0))), (q9, .inr (1, [.int 0, .int 0, .null, .null, .null]))] := hD
  refine lv_dup hx hb dX3_init_72 rfl ?_
  have hPc := hP.sub (ws' := [(q9, .inr (1, [.int 0, .int 0, .null, .null, .null]))]) [13] rfl
  have hDc := hD.sub (ws' := [(q9, .inr (1, [.int 0, .int 0, .null, .null, .null]))]) [13] (by decide) rfl
  have hFc := va_free (wc := [(q9, .inr (1, [.int 0, .int 0, .null, .null, .null]))]) hD hS hA [13] rfl
  refine va_callv (va_runIN (As := []) (rest := [.ref q9, .int 2, .ref q1]) ⟨hx, hb, hml, hown, hts⟩ (c_X1_init l g q9 H.size) ⟨va_cnB 0 hts (fun w hw => by rcases List.mem_cons.mp hw with rfl | hw; exact wAll_self _ co_X1; exact wAll_self w hw) rfl rfl rfl hnest (hts _ ni_X1) (by decide +kernel) ⟨Nat.le_of_ble_eq_true rfl, Nat.le_of_ble_eq_true rfl⟩, rfl, hts _ im_X1⟩ ⟨fun a U f mk q => by obtain ⟨q0, q1, qP, qK, qD, qO⟩ := q; exact ⟨q0, q1, qP, va_K.moved (u := U) (U := U.calling f mk a) (Vm.Alike.refl U.vm) qK, qD, va_AO.moved (u := U) (U := U.calling f mk a) (Vm.Alike.refl U.vm) qO⟩, fun U hU hW => ⟨rfl, by rw [hU], by rw [hU]; exact hPc, va_K.moved hW.alike hK, hDc.weaken (fun _ _ _ _ => trivial), va_AO.moved hW.alike hoX2⟩⟩ rfl rfl hl.1 rfl (lv_room (Nat.le_of_ble_eq_true rfl)) dX3_init_73 ⟨Nat.le_of_ble_eq_true rfl, Nat.le_of_ble_eq_true rfl⟩) hS (fun q _ h => hFc q h) hFc (fun u t H1 locs ht hvm hw hB hz1 hk1 hS => ?_)
  obtain ⟨hP1, hD1⟩ := hB
  rw [ht] at hP1
  generalize hu : u = u10 at hP1 hD1
  obtain ⟨hP, hD⟩ := va_join (wr := [(h0, .inr (3, [.ref q1, .ref q2, .ref q3, .ref q4, .int 0, .int 0, .int 0])), (q1, .inl (g.2.1 4, 4, .inr (.inr (.inr (.inr (va_up (va_up (fun _ => none) 0 (some q5)) 1 (some q7))))))), (q2, .inl (g.2.1 1, 6, .inl (fun _ => 0))), (q3, .inl (g.2.1 2, 12, .inr (.inr (.inr (.inr (fun _ => none)))))), (q4, .inl (g.2.1 3, 24, .inr (.inr (.inr (.inr (fun _ => none)))))), (q5, .inr (1, [.int 0, .int 10, .ref (u6 0), .ref (u6 1), .ref (u6 2)])), (u6 0, .inl (g.2.1 0, 16, .inl (fun _ => 0))), (u6 1, .inl (g.2.1 2, 16, .inr (.inr (.inr (.inr (fun _ => none)))))), (u6 2, .inl (g.2.1 0, 16, .inl (fun _ => 0))), (q7, .inr (1, [.int 0, .int 10, .ref (u8 0), .ref (u8 1), .ref (u8 2)])), (u8 0, .inl (g.2.1 0, 16, .inl (fun _ => 0))), (u8 1, .inl (g.2.1 2, 16, .inr (.inr (.inr (.inr (fun _ => none)))))), (u8 2, .inl (g.2.1 0, 16, .inl (fun _ => 0)))]) (w1 := [(q9, .inr (1, [.int 0, .int 10, .ref (u10 0), .ref (u10 1), .ref (u10 2)])), (u10 0, .inl (g.2.1 0, 16, .inl (fun _ => 0))), (u10 1, .inl (g.2.1 2, 16, .inr (.inr (.inr (.inr (fun _ => none)))))), (u10 2, .inl (g.2.1 0, 16, .inl (fun _ => 0)))]) hP hD [13] [0, 1, 2, 3, 4, 5, 6, 7, 8, 9, 10, 11, 12] rfl rfl (by decide) (by decide) hk1 hFc hP1 hD1
  generalize H1 = H at hP hS ⊢
  have hP : va_P g.1 vwCl [(h0, .inr (3, [.ref q1, .ref q2, .ref q3, .ref q4, .int 0, .int 0, .int 0])), (q1, .inl (g.2.1 4, 4, .inr (.inr (.inr (.inr (va_up (va_up (fun _ => none) 0 (some q5)) 1 (some q7))))))), (q2, .inl (g.2.1 1, 6, .inl (fun _ => 0))), (q3, .inl (g.2.1 2, 12, .inr (.inr (.inr (.inr (fun _ => none)))))), (q4, .inl (g.2.1 3, 24, .inr (.inr (.inr (.inr (fun _ => none)))))), (q5, .inr (1, [.int 0, .int 10, .ref (u6 0), .ref (u6 1), .ref (u6 2)])), (u6 0, .inl (g.2.1 0, 16, .inl (fun _ => 0))), (u6 1, .inl (g.2.1 2, 16, .inr (.inr (.inr (.inr (fun _ => none)))))), (u6 2, .inl (g.2.1 0, 16, .inl (fun _ => 0))), (q7, .inr (1, [.int 0, .int 10, .ref (u8 0), .ref (u8 1), .ref (u8 2)])), (u8 0, .inl (g.2.1 0, 16, .inl (fun _ => 0))), (u8 1, .inl (g.2.1 2, 16, .inr (.inr (.inr (.inr (fun _ => none)))))), (u8 2, .inl (g.2.1 0, 16, .inl (fun _ => 0))), (q9, .inr (1, [.int 0, .int 10, .ref (u10 0), .ref (u10 1), .ref (u10 2)])), (u10 0, .inl (g.2.1 0, 16, .inl (fun _ => 0))), (u10 1, .inl (g.2.1 2, 16, .inr (.inr (.inr (.inr (fun _ => none)))))), (u10 2, .inl (g.2.1 0, 16, .inl (fun _ => 0)))] H := hP
  have hD : va_D A [(h0, .inr (3, [.ref q1, .ref q2, .ref q3, .ref q4, .int 0, .int 0, .int 0])), (q1, .inl (g.2.1 4, 4, .inr (.inr (.inr (.inr (va_up (va_up (fun _ => none) 0 (some q5)) 1 (some q7))))))), (q2, .inl (g.2.1 1, 6, .inl (fun _ => 0))), (q3, .inl (g.2.1 2, 12, .inr (.inr (.inr (.inr (fun _ => none)))))), (q4, .inl (g.2.1 3, 24, .inr (.inr (.inr (.inr (fun _ => none)))))), (q5, .inr (1, [.int 0, .int 10, .ref (u6 0), .ref (u6 1), .ref (u6 2)])), (u6 0, .inl (g.2.1 0, 16, .inl (fun _ => 0))), (u6 1, .inl (g.2.1 2, 16, .inr (.inr (.inr (.inr (fun _ => none)))))), (u6 2, .inl (g.2.1 0, 16, .inl (fun _ => 0))), (q7, .inr (1, [.int 0, .int 10, .ref (u8 0), .ref (u8 1), .ref (u8 2)])), (u8 0, .inl (g.2.1 0, 16, .inl (fun _ => 0))), (u8 1, .inl (g.2.1 2, 16, .inr (.inr (.inr (.inr (fun _ => none)))))), (u8 2, .inl (g.2.1 0, 16, .inl (fun _ => 0))), (q9, .inr (1, [.int 0, .int 10, .ref (u10 0), .ref (u10 1), .ref (u10 2)])), (u10 0, .inl (g.2.1 0, 16, .inl (fun _ => 0))), (u10 1, .inl (g.2.1 2, 16, .inr (.inr (.inr (.inr (fun _ => none)))))), (u10 2, .inl (g.2.1 0, 16, .inl (fun _ => 0)))] := hD
  refine va_astq hx hb hK hP hD hS 1 4 13 1 rfl rfl rfl rfl (by unfold vp_in; decide) dX3_init_76 (fun H locs hP hD hS => ?_)
  rw [show (2 : Int32).toNatClampNeg = 2 from by decide] at hP hD
  have hP : va_P g.1 vwCl [(h0, .inr (3, [.ref q1, .ref q2, .ref q3, .ref q4, .int 0, .int 0, .int 0])), (q1, .inl (g.2.1 4, 4, .inr (.inr (.inr (.inr (va_up (va_up (va_up (fun _ => none) 0 (some q5)) 1 (some q7)) 2 (some q9))))))), (q2, .inl (g.2.1 1, 6, .inl (fun _ => 0))), (q3, .inl (g.2.1 2, 12, .inr (.inr (.inr (.inr (fun _ => none)))))), (q4, .inl (g.2.1 3, 24, .inr (.inr (.inr (.inr (fun _ => none)))))), (q5, .inr (1, [.int 0, .int 10, .ref (u6 0), .ref (u6 1), .ref (u6 2)])), (u6 0, .inl (g.2.1 0, 16, .inl (fun _ => 0))), (u6 1, .inl (g.2.1 2, 16, .inr (.inr (.inr (.inr (fun _ => none)))))), (u6 2, .inl (g.2.1 0, 16, .inl (fun _ => 0))), (q7, .inr (1, [.int 0, .int 10, .ref (u8 0), .ref (u8 1), .ref (u8 2)])), (u8 0, .inl (g.2.1 0, 16, .inl (fun _ => 0))), (u8 1, .inl (g.2.1 2, 16, .inr (.inr (.inr (.inr (fun _ => none)))))), (u8 2, .inl (g.2.1 0, 16, .inl (fun _ => 0))), (q9, .inr (1, [.int 0, .int 10, .ref (u10 0), .ref (u10 1), .ref (u10 2)])), (u10 0, .inl (g.2.1 0, 16, .inl (fun _ => 0))), (u10 1, .inl (g.2.1 2, 16, .inr (.inr (.inr (.inr (fun _ => none)))))), (u10 2, .inl (g.2.1 0, 16, .inl (fun _ => 0)))] H := hP
  have hD : va_D A [(h0, .inr (3, [.ref q1, .ref q2, .ref q3, .ref q4, .int 0, .int 0, .int 0])), (q1, .inl (g.2.1 4, 4, .inr (.inr (.inr (.inr (va_up (va_up (va_up (fun _ => none) 0 (some q5)) 1 (some q7)) 2 (some q9))))))), (q2, .inl (g.2.1 1, 6, .inl (fun _ => 0))), (q3, .inl (g.2.1 2, 12, .inr (.inr (.inr (.inr (fun _ => none)))))), (q4, .inl (g.2.1 3, 24, .inr (.inr (.inr (.inr (fun _ => none)))))), (q5, .inr (1, [.int 0, .int 10, .ref (u6 0), .ref (u6 1), .ref (u6 2)])), (u6 0, .inl (g.2.1 0, 16, .inl (fun _ => 0))), (u6 1, .inl (g.2.1 2, 16, .inr (.inr (.inr (.inr (fun _ => none)))))), (u6 2, .inl (g.2.1 0, 16, .inl (fun _ => 0))), (q7, .inr (1, [.int 0, .int 10, .ref (u8 0), .ref (u8 1), .ref (u8 2)])), (u8 0, .inl (g.2.1 0, 16, .inl (fun _ => 0))), (u8 1, .inl (g.2.1 2, 16, .inr (.inr (.inr (.inr (fun _ => none)))))), (u8 2, .inl (g.2.1 0, 16, .inl (fun _ => 0))), (q9, .inr (1, [.int 0, .int 10, .ref (u10 0), .ref (u10 1), .ref (u10 2)])), (u10 0, .inl (g.2.1 0, 16, .inl (fun _ => 0))), (u10 1, .inl (g.2.1 2, 16, .inr (.inr (.inr (.inr (fun _ => none)))))), (u10 2, .inl (g.2.1 0, 16, .inl (fun _ => 0)))] := hD
  refine lv_iinc (v := 3) (lv' := [(1, .int 3), (0, .ref h0)]) hx hb dX3_init_77 hl (k := 0) rfl (by decide) (by decide) rfl (fun ls hl => ?_)
  refine lv_goto (tgt := 55) hx hb dX3_init_80 (by decide) ?_
  refine lv_iload_n hx hb dX3_init_55 rfl (lv_at hl 0 rfl) ?_
  refine lv_aload_n hx hb dX3_init_56 rfl (lv_at hl 1 rfl) ?_
  refine va_get (C := RX3) (T := TX3) (N := 7) hx hb hts iX3 hown hK hP 0 rfl rfl 0 (Nat.le_of_ble_eq_true rfl) (hts _ fl_X3_11) (fun _ h => h) rfl dX3_init_57 ?_
  refine va_alen (v := 4) hx hb hK hP 1 4 rfl rfl rfl dX3_init_60 ?_
  refine lv_icmp_ge (tgt := 83) hx hb dX3_init_61 (by decide) (fun h => absurd h (by decide)) (fun _ => ?_)
  refine lv_aload_n hx hb dX3_init_64 rfl (lv_at hl 1 rfl) ?_
  refine va_get (C := RX3) (T := TX3) (N := 7) hx hb hts iX3 hown hK hP 0 rfl rfl 0 (Nat.le_of_ble_eq_true rfl) (hts _ fl_X3_11) (fun _ h => h) rfl dX3_init_65 ?_
  refine lv_iload_n hx hb dX3_init_68 rfl (lv_at hl 0 rfl) ?_
  refine va_new (ci := 1) (fs := [.int 0, .int 0, .null, .null, .null]) (C := RX1) (T := TX1) (N := 5) hx hb hts iX1 tyX1 tyX1_ok hown (hts _ cl_X3_9) (hts _ is_X1) (hts _ ni_X1) hK hP hD hS hA rfl (fun j hj => by rcases (show j = 0 ∨ j = 1 ∨ j = 2 ∨ j = 3 ∨ j = 4 by omega) with rfl | rfl | rfl | rfl | rfl <;> rfl) (Nat.le_of_ble_eq_true rfl) (Nat.le_of_ble_eq_true rfl) dX3_init_69 (fun q11 H hP hD hS => ?_)
  have hP : va_P g.1 vwCl [(h0, .inr (3, [.ref q1, .ref q2, .ref q3, .ref q4, .int 0, .int 0, .int 0])), (q1, .inl (g.2.1 4, 4, .inr (.inr (.inr (.inr (va_up (va_up (va_up (fun _ => none) 0 (some q5)) 1 (some q7)) 2 (some q9))))))), (q2, .inl (g.2.1 1, 6, .inl (fun _ => 0))), (q3, .inl (g.2.1 2, 12, .inr (.inr (.inr (.inr (fun _ => none)))))), (q4, .inl (g.2.1 3, 24, .inr (.inr (.inr (.inr (fun _ => none)))))), (q5, .inr (1, [.int 0, .int 10, .ref (u6 0), .ref (u6 1), .ref (u6 2)])), (u6 0, .inl (g.2.1 0, 16, .inl (fun _ => 0))), (u6 1, .inl (g.2.1 2, 16, .inr (.inr (.inr (.inr (fun _ => none)))))), (u6 2, .inl (g.2.1 0, 16, .inl (fun _ => 0))), (q7, .inr (1, [.int 0, .int 10, .ref (u8 0), .ref (u8 1), .ref (u8 2)])), (u8 0, .inl (g.2.1 0, 16, .inl (fun _ => 0))), (u8 1, .inl (g.2.1 2, 16, .inr (.inr (.inr (.inr (fun _ => none)))))), (u8 2, .inl (g.2.1 0, 16, .inl (fun _ => 0))), (q9, .inr (1, [.int 0, .int 10, .ref (u10 0), .ref (u10 1), .ref (u10 2)])), (u10 0, .inl (g.2.1 0, 16, .inl (fun _ => 0))), (u10 1, .inl (g.2.1 2, 16, .inr (.inr (.inr (.inr (fun _ => none)))))), (u10 2, .inl (g.2.1 0, 16, .inl (fun _ => 0))), (q11, .inr (1, [.int 0, .int 0, .null, .null, .null]))] H := hP
  have hD : va_D A [(h0, .inr (3, [.ref q1, .ref q2, .ref q3, .ref q4, .int 0, .int 0, .int 0])), (q1, .inl (g.2.1 4, 4, .inr (.inr (.inr (.inr (va_up (va_up (va_up (fun _ => none) 0 (some q5)) 1 (some q7)) 2 (some q9))))))), (q2, .inl (g.2.1 1, 6, .inl (fun _ => 0))), (q3, .inl (g.2.1 2, 12, .inr (.inr (.inr (.inr (fun _ => none)))))), (q4, .inl (g.2.1 3, 24, .inr (.inr (.inr (.inr (fun _ => none)))))), (q5, .inr (1, [.int 0, .int 10, .ref (u6 0), .ref (u6 1), .ref (u6 2)])), (u6 0, .inl (g.2.1 0, 16, .inl (fun _ => 0))), (u6 1, .inl (g.2.1 2, 16, .inr (.inr (.inr (.inr (fun _ => none)))))), (u6 2, .inl (g.2.1 0, 16, .inl (fun _ => 0))), (q7, .inr (1, [.int 0, .int 10, .ref (u8 0), .ref (u8 1), .ref (u8 2)])), (u8 0, .inl (g.2.1 0, 16, .inl (fun _ => 0))), (u8 1, .inl (g.2.1 2, 16, .inr (.inr (.inr (.inr (fun _ => none)))))), (u8 2, .inl (g.2.1 0, 16, .inl (fun _ => 0))), (q9, .inr (1, [.int 0, .int 10, .ref (u10 0), .ref (u10 1), .ref (u10 2)])), (u10 0, .inl (g.2.1 0, 16, .inl (fun _ => 0))), (u10 1, .inl (g.2.1 2, 16, .inr (.inr (.inr (.inr (fun _ => none)))))), (u10 2, .inl (g.2.1 0, 16, .inl (fun _ => 0))), (q11, .inr (1, [.int 0, .int 0, .null, .null, .null]))] := hD
  refine lv_dup hx hb dX3_init_72 rfl ?_
  have hPc := hP.sub (ws' := [(q11, .inr (1, [.int 0, .int 0, .null, .null, .null]))]) [17] rfl
  have hDc := hD.sub (ws' := [(q11, .inr (1, [.int 0, .int 0, .null, .null, .null]))]) [17] (by decide) rfl
  have hFc := va_free (wc := [(q11, .inr (1, [.int 0, .int 0, .null, .null, .null]))]) hD hS hA [17] rfl
  refine va_callv (va_runIN (As := []) (rest := [.ref q11, .int 3, .ref q1]) ⟨hx, hb, hml, hown, hts⟩ (c_X1_init l g q11 H.size) ⟨va_cnB 0 hts (fun w hw => by rcases List.mem_cons.mp hw with rfl | hw; exact wAll_self _ co_X1; exact wAll_self w hw) rfl rfl rfl hnest (hts _ ni_X1) (by decide +kernel) ⟨Nat.le_of_ble_eq_true rfl, Nat.le_of_ble_eq_true rfl⟩, rfl, hts _ im_X1⟩ ⟨fun a U f mk q => by obtain ⟨q0, q1, qP, qK, qD, qO⟩ := q; exact ⟨q0, q1, qP, va_K.moved (u := U) (U := U.calling f mk a) (Vm.Alike.refl U.vm) qK, qD, va_AO.moved (u := U) (U := U.calling f mk a) (Vm.Alike.refl U.vm) qO⟩, fun U hU hW => ⟨rfl, by rw [hU], by rw [hU]; exact hPc, va_K.moved hW.alike hK, hDc.weaken (fun _ _ _ _ => trivial), va_AO.moved hW.alike hoX2⟩⟩ rfl rfl hl.1 rfl (lv_room (Nat.le_of_ble_eq_true rfl)) dX3_init_73 ⟨Nat.le_of_ble_eq_true rfl, Nat.le_of_ble_eq_true rfl⟩) hS (fun q _ h => hFc q h) hFc (fun u t H1 locs ht hvm hw hB hz1 hk1 hS => ?_)
  obtain ⟨hP1, hD1⟩ := hB
  rw [ht] at hP1
  generalize hu : u = u12 at hP1 hD1
  obtain ⟨hP, hD⟩ := va_join (wr := [(h0, .inr (3, [.ref q1, .ref q2, .ref q3, .ref q4, .int 0, .int 0, .int 0])), (q1, .inl (g.2.1 4, 4, .inr (.inr (.inr (.inr (va_up (va_up (va_up (fun _ => none) 0 (some q5)) 1 (some q7)) 2 (some q9))))))), (q2, .inl (g.2.1 1, 6, .inl (fun _ => 0))), (q3, .inl (g.2.1 2, 12, .inr (.inr (.inr (.inr (fun _ => none)))))), (q4, .inl (g.2.1 3, 24, .inr (.inr (.inr (.inr (fun _ => none)))))), (q5, .inr (1, [.int 0, .int 10, .ref (u6 0), .ref (u6 1), .ref (u6 2)])), (u6 0, .inl (g.2.1 0, 16, .inl (fun _ => 0))), (u6 1, .inl (g.2.1 2, 16, .inr (.inr (.inr (.inr (fun _ => none)))))), (u6 2, .inl (g.2.1 0, 16, .inl (fun _ => 0))), (q7, .inr (1, [.int 0, .int 10, .ref (u8 0), .ref (u8 1), .ref (u8 2)])), (u8 0, .inl (g.2.1 0, 16, .inl (fun _ => 0))), (u8 1, .inl (g.2.1 2, 16, .inr (.inr (.inr (.inr (fun _ => none)))))), (u8 2, .inl (g.2.1 0, 16, .inl (fun _ => 0))), (q9, .inr (1, [.int 0, .int 10, .ref (u10 0), .ref (u10 1), .ref (u10 2)])), (u10 0, .inl (g.2.1 0, 16, .inl (fun _ => 0))), (u10 1, .inl (g.2.1 2, 16, .inr (.inr (.inr (.inr (fun _ => none)))))), (u10 2, .inl (g.2.1 0, 16, .inl (fun _ => 0)))]) (w1 := [(q11, .inr (1, [.int 0, .int 10, .ref (u12 0), .ref (u12 1), .ref (u12 2)])), (u12 0, .inl (g.2.1 0, 16, .inl (fun _ => 0))), (u12 1, .inl (g.2.1 2, 16, .inr (.inr (.inr (.inr (fun _ => none)))))), (u12 2, .inl (g.2.1 0, 16, .inl (fun _ => 0)))]) hP hD [17] [0, 1, 2, 3, 4, 5, 6, 7, 8, 9, 10, 11, 12, 13, 14, 15, 16] rfl rfl (by decide) (by decide) hk1 hFc hP1 hD1
  generalize H1 = H at hP hS ⊢
  have hP : va_P g.1 vwCl [(h0, .inr (3, [.ref q1, .ref q2, .ref q3, .ref q4, .int 0, .int 0, .int 0])), (q1, .inl (g.2.1 4, 4, .inr (.inr (.inr (.inr (va_up (va_up (va_up (fun _ => none) 0 (some q5)) 1 (some q7)) 2 (some q9))))))), (q2, .inl (g.2.1 1, 6, .inl (fun _ => 0))), (q3, .inl (g.2.1 2, 12, .inr (.inr (.inr (.inr (fun _ => none)))))), (q4, .inl (g.2.1 3, 24, .inr (.inr (.inr (.inr (fun _ => none)))))), (q5, .inr (1, [.int 0, .int 10, .ref (u6 0), .ref (u6 1), .ref (u6 2)])), (u6 0, .inl (g.2.1 0, 16, .inl (fun _ => 0))), (u6 1, .inl (g.2.1 2, 16, .inr (.inr (.inr (.inr (fun _ => none)))))), (u6 2, .inl (g.2.1 0, 16, .inl (fun _ => 0))), (q7, .inr (1, [.int 0, .int 10, .ref (u8 0), .ref (u8 1), .ref (u8 2)])), (u8 0, .inl (g.2.1 0, 16, .inl (fun _ => 0))), (u8 1, .inl (g.2.1 2, 16, .inr (.inr (.inr (.inr (fun _ => none)))))), (u8 2, .inl (g.2.1 0, 16, .inl (fun _ => 0))), (q9, .inr (1, [.int 0, .int 10, .ref (u10 0), .ref (u10 1), .ref (u10 2)])), (u10 0, .inl (g.2.1 0, 16, .inl (fun _ => 0))), (u10 1, .inl (g.2.1 2, 16, .inr (.inr (.inr (.inr (fun _ => none)))))), (u10 2, .inl (g.2.1 0, 16, .inl (fun _ => 0))), (q11, .inr (1, [.int 0, .int 10, .ref (u12 0), .ref (u12 1), .ref (u12 2)])), (u12 0, .inl (g.2.1 0, 16, .inl (fun _ => 0))), (u12 1, .inl (g.2.1 2, 16, .inr (.inr (.inr (.inr (fun _ => none)))))), (u12 2, .inl (g.2.1 0, 16, .inl (fun _ => 0)))] H := hP
  have hD : va_D A [(h0, .inr (3, [.ref q1, .ref q2, .ref q3, .ref q4, .int 0, .int 0, .int 0])), (q1, .inl (g.2.1 4, 4, .inr (.inr (.inr (.inr (va_up (va_up (va_up (fun _ => none) 0 (some q5)) 1 (some q7)) 2 (some q9))))))), (q2, .inl (g.2.1 1, 6, .inl (fun _ => 0))), (q3, .inl (g.2.1 2, 12, .inr (.inr (.inr (.inr (fun _ => none)))))), (q4, .inl (g.2.1 3, 24, .inr (.inr (.inr (.inr (fun _ => none)))))), (q5, .inr (1, [.int 0, .int 10, .ref (u6 0), .ref (u6 1), .ref (u6 2)])), (u6 0, .inl (g.2.1 0, 16, .inl (fun _ => 0))), (u6 1, .inl (g.2.1 2, 16, .inr (.inr (.inr (.inr (fun _ => none)))))), (u6 2, .inl (g.2.1 0, 16, .inl (fun _ => 0))), (q7, .inr (1, [.int 0, .int 10, .ref (u8 0), .ref (u8 1), .ref (u8 2)])), (u8 0, .inl (g.2.1 0, 16, .inl (fun _ => 0))), (u8 1, .inl (g.2.1 2, 16, .inr (.inr (.inr (.inr (fun _ => none)))))), (u8 2, .inl (g.2.1 0, 16, .inl (fun _ => 0))), (q9, .inr (1, [.int 0, .int 10, .ref (u10 0), .ref (u10 1), .ref (u10 2)])), (u10 0, .inl (g.2.1 0, 16, .inl (fun _ => 0))), (u10 1, .inl (g.2.1 2, 16, .inr (.inr (.inr (.inr (fun _ => none)))))), (u10 2, .inl (g.2.1 0, 16, .inl (fun _ => 0))), (q11, .inr (1, [.int 0, .int 10, .ref (u12 0), .ref (u12 1), .ref (u12 2)])), (u12 0, .inl (g.2.1 0, 16, .inl (fun _ => 0))), (u12 1, .inl (g.2.1 2, 16, .inr (.inr (.inr (.inr (fun _ => none)))))), (u12 2, .inl (g.2.1 0, 16, .inl (fun _ => 0)))] := hD
  refine va_astq hx hb hK hP hD hS 1 4 17 1 rfl rfl rfl rfl (by unfold vp_in; decide) dX3_init_76 (fun H locs hP hD hS => ?_)
  rw [show (3 : Int32).toNatClampNeg = 3 from by decide] at hP hD
  have hP : va_P g.1 vwCl [(h0, .inr (3, [.ref q1, .ref q2, .ref q3, .ref q4, .int 0, .int 0, .int 0])), (q1, .inl (g.2.1 4, 4, .inr (.inr (.inr (.inr (va_up (va_up (va_up (va_up (fun _ => none) 0 (some q5)) 1 (some q7)) 2 (some q9)) 3 (some q11))))))), (q2, .inl (g.2.1 1, 6, .inl (fun _ => 0))), (q3, .inl (g.2.1 2, 12, .inr (.inr (.inr (.inr (fun _ => none)))))), (q4, .inl (g.2.1 3, 24, .inr (.inr (.inr (.inr (fun _ => none)))))), (q5, .inr (1, [.int 0, .int 10, .ref (u6 0), .ref (u6 1), .ref (u6 2)])), (u6 0, .inl (g.2.1 0, 16, .inl (fun _ => 0))), (u6 1, .inl (g.2.1 2, 16, .inr (.inr (.inr (.inr (fun _ => none)))))), (u6 2, .inl (g.2.1 0, 16, .inl (fun _ => 0))), (q7, .inr (1, [.int 0, .int 10, .ref (u8 0), .ref (u8 1), .ref (u8 2)])), (u8 0, .inl (g.2.1 0, 16, .inl (fun _ => 0))), (u8 1, .inl (g.2.1 2, 16, .inr (.inr (.inr (.inr (fun _ => none)))))), (u8 2, .inl (g.2.1 0, 16, .inl (fun _ => 0))), (q9, .inr (1, [.int 0, .int 10, .ref (u10 0), .ref (u10 1), .ref (u10 2)])), (u10 0, .inl (g.2.1 0, 16, .inl (fun _ => 0))), (u10 1, .inl (g.2.1 2, 16, .inr (.inr (.inr (.inr (fun _ => none)))))), (u10 2, .inl (g.2.1 0, 16, .inl (fun _ => 0))), (q11, .inr (1, [.int 0, .int 10, .ref (u12 0), .ref (u12 1), .ref (u12 2)])), (u12 0, .inl (g.2.1 0, 16, .inl (fun _ => 0))), (u12 1, .inl (g.2.1 2, 16, .inr (.inr (.inr (.inr (fun _ => none)))))), (u12 2, .inl (g.2.1 0, 16, .inl (fun _ => 0)))] H := hP
  have hD : va_D A [(h0, .inr (3, [.ref q1, .ref q2, .ref q3, .ref q4, .int 0, .int 0, .int 0])), (q1, .inl (g.2.1 4, 4, .inr (.inr (.inr (.inr (va_up (va_up (va_up (va_up (fun _ => none) 0 (some q5)) 1 (some q7)) 2 (some q9)) 3 (some q11))))))), (q2, .inl (g.2.1 1, 6, .inl (fun _ => 0))), (q3, .inl (g.2.1 2, 12, .inr (.inr (.inr (.inr (fun _ => none)))))), (q4, .inl (g.2.1 3, 24, .inr (.inr (.inr (.inr (fun _ => none)))))), (q5, .inr (1, [.int 0, .int 10, .ref (u6 0), .ref (u6 1), .ref (u6 2)])), (u6 0, .inl (g.2.1 0, 16, .inl (fun _ => 0))), (u6 1, .inl (g.2.1 2, 16, .inr (.inr (.inr (.inr (fun _ => none)))))), (u6 2, .inl (g.2.1 0, 16, .inl (fun _ => 0))), (q7, .inr (1, [.int 0, .int 10, .ref (u8 0), .ref (u8 1), .ref (u8 2)])), (u8 0, .inl (g.2.1 0, 16, .inl (fun _ => 0))), (u8 1, .inl (g.2.1 2, 16, .inr (.inr (.inr (.inr (fun _ => none)))))), (u8 2, .inl (g.2.1 0, 16, .inl (fun _ => 0))), (q9, .inr (1, [.int 0, .int 10, .ref (u10 0), .ref (u10 1), .ref (u10 2)])), (u10 0, .inl (g.2.1 0, 16, .inl (fun _ => 0))), (u10 1, .inl (g.2.1 2, 16, .inr (.inr (.inr (.inr (fun _ => none)))))), (u10 2, .inl (g.2.1 0, 16, .inl (fun _ => 0))), (q11, .inr (1, [.int 0, .int 10, .ref (u12 0), .ref (u12 1), .ref (u12 2)])), (u12 0, .inl (g.2.1 0, 16, .inl (fun _ => 0))), (u12 1, .inl (g.2.1 2, 16, .inr (.inr (.inr (.inr (fun _ => none)))))), (u12 2, .inl (g.2.1 0, 16, .inl (fun _ => 0)))] := hD
  refine lv_iinc (v := 4) (lv' := [(1, .int 4), (0, .ref h0)]) hx hb dX3_init_77 hl (k := 0) rfl (by decide) (by decide) rfl (fun ls hl => ?_)
  refine lv_goto (tgt := 55) hx hb dX3_init_80 (by decide) ?_
  refine lv_iload_n hx hb dX3_init_55 rfl (lv_at hl 0 rfl) ?_
  refine lv_aload_n hx hb dX3_init_56 rfl (lv_at hl 1 rfl) ?_
  refine va_get (C := RX3) (T := TX3) (N := 7) hx hb hts iX3 hown hK hP 0 rfl rfl 0 (Nat.le_of_ble_eq_true rfl) (hts _ fl_X3_11) (fun _ h => h) rfl dX3_init_57 ?_
  refine va_alen (v := 4) hx hb hK hP 1 4 rfl rfl rfl dX3_init_60 ?_
  refine lv_icmp_ge (tgt := 83) hx hb dX3_init_61 (by decide) (fun _ => ?_) (fun h => absurd (by decide) h)
  exact W.vret hx hb hr (fun t ht hW => ⟨⟨(fun i => [q1, q2, q3, q4, q5, (u6 0), (u6 1), (u6 2), q7, (u8 0), (u8 1), (u8 2), q9, (u10 0), (u10 1), (u10 2), q11, (u12 0), (u12 1), (u12 2)].getD i 0), rfl, trivial, by rw [ht]; exact hP, hD⟩, hS.F ht⟩) hS.2.2 dX3_init_83 hlocks
end WInits
