section WNews
theorem Cx.up {K : wK} {cc : ByteArray} {own : String} {nL : Nat} {ret : Option FieldType} {rm : Room} {z z' : wZ} (C : Cx K cc own nL ret rm z) {g' : wG} (h1 : g'.1 = (Kg K).1) (h2 : g'.2.1 = (Kg K).2.1) (h : ∀ k i, wAl z' k i → Ka K (g'.2.2 k i)) : Cx (Kw K g') cc own nL ret rm z' := by
  obtain ⟨p, l, e, R, s, m, args, below, meth, cd, Q, g, A⟩ := K
  obtain ⟨a1, a2, a3, a4, a5, a6, a7, a8, a9, a10⟩ := C
  obtain ⟨g1, g2, g3⟩ := g'
  have h1 : g1 = g.1 := h1
  have h2 : g2 = g.2.1 := h2
  subst h1
  subst h2
  exact ⟨a1, a2, a3, a4, a5, a6, a7, a8, a9, h⟩
theorem Rq.up {K : wK} {g0 : wG} {z0 : wZ} {sz : Nat} {I0 : wI} {P0 : wP} {O0 : wO} {mc ms : Nat} {post : wPost} {xp : String → Prop} (h : Rq K g0 z0 sz I0 P0 O0 mc ms post xp) (g' : wG) : Rq (Kw K g') g0 z0 sz I0 P0 O0 mc ms post xp := h
theorem va_A1 {a sz q : Nat} {e : va_E} (h : va_A [(a, e)] sz q) : q = a ∨ sz ≤ q := by
  rcases h with ⟨k, e2, h⟩ | h
  · cases k with
    | zero => cases h; exact Or.inl rfl
    | succ k => cases h
  · exact Or.inr h
theorem va_D1 {A : Nat → Prop} {a : Nat} {e : va_E} (h : A a) : va_D A [(a, e)] := by
  refine ⟨fun i j p q hi hj _ => ?_, fun k q hk => ?_⟩
  · have h1 := (List.getElem?_eq_some_iff.mp hi).1
    have h2 := (List.getElem?_eq_some_iff.mp hj).1
    simp only [List.length_singleton] at h1 h2
    omega
  · cases k with
    | zero => cases hk; exact h
    | succ k => cases hk
theorem gd_init {y : MethodName} {b : ByteArray} {n : Nat} (h : Cond.code y b n none ∈ wAll) : GoodIn wAll (.code y b n none :: wAll) := fun w hw => by
  rcases List.mem_cons.mp hw with rfl | hw
  · exact wAll_self _ h
  · exact wAll_self w hw
def fM (n x y w v e : Int32) : Nat → Int32 := fun c => match c with
  | 0 => n
  | 1 => x
  | 2 => y
  | 3 => w
  | 4 => v
  | 5 => 0
  | 6 => 0
  | _ => e
def fH (n d : Int32) : Nat → Int32 := fun c => match c with
  | 0 => n
  | 2 => d
  | 5 => -1
  | 6 => -1
  | 7 => -1
  | _ => 0
theorem Cx.al {K : wK} {cc : ByteArray} {own : String} {nL : Nat} {ret : Option FieldType} {rm : Room} {z : wZ} (C : Cx K cc own nL ret rm z) {k i : Nat} (h : wAl z k i) : Ka K ((Kg K).2.2 k i) := by
  obtain ⟨p, l, e, R, s, m, args, below, meth, cd, Q, g, A⟩ := K
  exact C.2.2.2.2.2.2.2.2.2 k i h
theorem Rq.sz {K : wK} {g0 : wG} {z0 : wZ} {sz : Nat} {I0 : wI} {P0 : wP} {O0 : wO} {mc ms : Nat} {post : wPost} {xp : String → Prop} (h : Rq K g0 z0 sz I0 P0 O0 mc ms post xp) {q : Nat} (hq : sz ≤ q) : Ka K q := by
  obtain ⟨p, l, e, R, s, m, args, below, meth, cd, Q, g, A⟩ := K
  obtain ⟨-, rfl, -⟩ := h
  exact Or.inr hq
set_option maxHeartbeats 4000000 in
set_option maxRecDepth 20000 in
theorem x_newM {K : wK} {z : wZ} {I : wI} {P : wP} {O : wO} {sz : Nat} {post : wPost} {xp : String → Prop} {x y w v : Int32} (C : Cx K cX3_file RX3 6 (some .int) { frames := 6, cells := 1, slots := 8, locals := 90 } z) (hQ : Rq K (Kg K) z sz I P O 1 8 post xp) (hR : RF z P) (kk : ∀ a : Nat, sz ≤ a → G (Kw K (gUp (Kg K) 2 z.1 a)) (z.1 + 1, z.2) (rowI I 2 z.1 (fM (I 0 0 4) x y w v (I 0 0 6 + 100))) P O 1 8 108 [(0, .ref ((Kg K).2.2 0 0)), (1, .int x), (2, .int y), (3, .int w), (4, .int v)] [.ref ((gUp (Kg K) 2 z.1 a).2.2 2 z.1)]) : G K z I P O 0 0 85 [(0, .ref ((Kg K).2.2 0 0)), (1, .int x), (2, .int y), (3, .int w), (4, .int v)] [] := by
  obtain ⟨p, l, e, R, s, mt, args, below, meth, cd, Q, g, A⟩ := K
  obtain ⟨-, hAe, hsz, hX, hfl⟩ := hQ
  obtain ⟨hx, hb, hr, hml, hown, hts, hlk, hK, rfl, hA⟩ := C
  intro H locs ls hH hS hl hcat
  have hA2 : ∀ q, s.heap.size ≤ q → A q := fun q hq => by rw [hAe]; exact Or.inr (by rw [← hsz]; exact hq)
  refine cl_new (ci := 2) (fs := [.int 0, .int 0, .int 0, .int 0, .int 0, .int 0, .int 0, .int 0]) (C := RX2) (T := TX2) (N := 8) hx hb hts iX2 tyX2 tyX2_ok hown (hts _ cl_X3_19) (hts _ is_X2) (hts _ ni_X2) hK rfl (fun j hj => by rcases (show j = 0 ∨ j = 1 ∨ j = 2 ∨ j = 3 ∨ j = 4 ∨ j = 5 ∨ j = 6 ∨ j = 7 by omega) with rfl | rfl | rfl | rfl | rfl | rfl | rfl | rfl <;> rfl) (Nat.le_of_ble_eq_true rfl) (Nat.le_of_ble_eq_true rfl) dX3_file_85 (fun H1 hc1 hz1 ho1 => ?_)
  have h00 := (hH.1 0 0 rfl).kept (ho1 _ (hH.lt (k := 0) (i := 0) rfl))
  have hS1 : va_S A s.heap H1 locs := ⟨Nat.le_trans hS.1 (by omega), fun q h1 h2 => (ho1 q (Nat.lt_of_lt_of_le h1 hS.1)).trans (hS.2.1 q h1 h2), hS.2.2⟩
  have hA3 : ∀ q, va_A [(H.size, .inr (2, [.int 0, .int 0, .int 0, .int 0, .int 0, .int 0, .int 0, .int 0]))] H1.size q → A q := fun q h => by
    have := hS.1
    rcases va_A1 h with h | h
    · exact hA2 q (by omega)
    · exact hA2 q (by omega)
  have hA1 : ∀ q, q < H1.size → va_A [(H.size, .inr (2, [.int 0, .int 0, .int 0, .int 0, .int 0, .int 0, .int 0, .int 0]))] H1.size q → A q := fun q _ h => hA3 q h
  have hsz2 : sz ≤ H.size := by rw [← hsz]; exact hS.1
  refine lv_dup hx hb dX3_file_88 rfl ?_
  refine lv_aload_n hx hb dX3_file_89 rfl (hl.2.2 _ (lk_mem (i := 0) rfl)) ?_
  refine va_get (C := RX3) (T := TX3) (N := 7) hx hb hts iX3 hown hK (cl_one h00) 0 rfl rfl 4 (Nat.le_of_ble_eq_true rfl) (hts _ fl_X3_31) (fun _ h => h) rfl dX3_file_90 ?_
  refine lv_iload_n hx hb dX3_file_93 rfl (hl.2.2 _ (lk_mem (i := 1) rfl)) ?_
  refine lv_iload_n hx hb dX3_file_94 rfl (hl.2.2 _ (lk_mem (i := 2) rfl)) ?_
  refine lv_iload_n hx hb dX3_file_95 rfl (hl.2.2 _ (lk_mem (i := 3) rfl)) ?_
  refine lv_iload hx hb dX3_file_96 (hl.2.2 _ (lk_mem (i := 4) rfl)) ?_
  refine lv_aload_n hx hb dX3_file_98 rfl (hl.2.2 _ (lk_mem (i := 0) rfl)) ?_
  refine va_get (C := RX3) (T := TX3) (N := 7) hx hb hts iX3 hown hK (cl_one h00) 0 rfl rfl 6 (Nat.le_of_ble_eq_true rfl) (hts _ fl_X3_38) (fun _ h => h) rfl dX3_file_99 ?_
  refine lv_bipush (v := 100) hx hb dX3_file_102 (by decide) ?_
  refine lv_iadd hx hb dX3_file_104 ?_
  refine va_callv (va_runI (As := [.int (I 0 0 4), .int x, .int y, .int w, .int v, .int (I 0 0 6 + 100)]) (rest := [.ref H.size]) ⟨hx, hb, hml, hown, hts⟩ (c_X2_init l g H.size H1.size (I 0 0 4) x y w v (I 0 0 6 + 100)) (cwI 6 hts (gd_init co_X2) rfl rfl rfl (hts _ ni_X2) (hts _ ml_X3_82) (hts _ im_X2) rfl (by decide +kernel) ⟨Nat.le_of_ble_eq_true rfl, Nat.le_of_ble_eq_true rfl⟩) ⟨fun a U f mk q => by obtain ⟨q0, q1, qP, qK, qD⟩ := q; exact ⟨q0, q1, qP, va_K.moved (u := U) (U := U.calling f mk a) (Vm.Alike.refl U.vm) qK, qD⟩, fun U hU hW => ⟨rfl, by rw [hU], by rw [hU]; exact cl_one hc1, va_K.moved hW.alike hK, va_D1 trivial⟩⟩ rfl rfl (hl.1.trans hml) rfl (lv_room (Nat.le_of_ble_eq_true rfl)) dX3_file_105 ⟨Nat.le_of_ble_eq_true rfl, Nat.le_of_ble_eq_true rfl⟩) hS1 hA1 hA3 (fun u t H2 locs2 ht hvm hw hB hz2 hk2 hS2 => ?_)
  obtain ⟨hP2, hD2⟩ := hB
  rw [ht] at hP2
  have hk3 : ∀ q : Nat, q < H.size → H2[q]? = H[q]? := fun q hq => (hk2 q (by omega) (fun h => by rcases va_A1 h with h | h <;> omega)).trans (ho1 q hq)
  have hH2 := hH.addM (a := H.size) (f := fM (I 0 0 4) x y w v (I 0 0 6 + 100)) hR hk3 (Nat.le_refl _) (hP2 0 _ rfl)
  have k2 : W p l e _ s mt args below meth cd H2 locs2 1 8 Q (F0 mt 108 ls [.ref ((gUp g 2 z.1 H.size).2.2 2 z.1)]) := kk H.size hsz2 H2 locs2 ls hH2 hS2 hl hcat
  rw [show (gUp g 2 z.1 H.size).2.2 2 z.1 = H.size from if_pos ⟨rfl, rfl⟩] at k2
  exact k2
set_option maxHeartbeats 4000000 in
set_option maxRecDepth 20000 in
theorem x_newH {K : wK} {z : wZ} {I : wI} {P : wP} {O : wO} {sz : Nat} {post : wPost} {xp : String → Prop} {x r w a y : Int32} {j : Nat} (C : Cx K cX3_plan RX3 8 (some .int) { frames := 6, cells := 2, slots := 14, locals := 96 } z) (hQ : Rq K (Kg K) z sz I P O 2 14 post xp) (hR : RF z P) (hj : j < z.1) (kk : ∀ b c : Nat, sz ≤ b → sz ≤ c → G (Kw K (gUp (gUp (Kg K) 3 z.2 b) 11 z.2 c)) (z.1, z.2 + 1) (rowI (rowI I 3 z.2 (fH (I 0 0 5) y)) 11 z.2 (fun _ => 0)) (upP P 3 z.2 1 (some j)) O 2 14 161 [(0, .ref ((Kg K).2.2 0 0)), (1, .int x), (2, .int r), (3, .int w), (4, .int a), (5, .int y), (6, .ref ((Kg K).2.2 2 j))] [.ref ((gUp (gUp (Kg K) 3 z.2 b) 11 z.2 c).2.2 3 z.2)]) : G K z I P O 0 0 146 [(0, .ref ((Kg K).2.2 0 0)), (1, .int x), (2, .int r), (3, .int w), (4, .int a), (5, .int y), (6, .ref ((Kg K).2.2 2 j))] [] := by
  obtain ⟨p, l, e, R, s, mt, args, below, meth, cd, Q, g, A⟩ := K
  obtain ⟨-, hAe, hsz, hX, hfl⟩ := hQ
  obtain ⟨hx, hb, hr, hml, hown, hts, hlk, hK, rfl, hA⟩ := C
  intro H locs ls hH hS hl hcat
  have hA2 : ∀ q, s.heap.size ≤ q → A q := fun q hq => by rw [hAe]; exact Or.inr (by rw [← hsz]; exact hq)
  refine cl_new (ci := 0) (fs := [.int 0, .null, .int 0, .null, .int 0, .int 0, .int 0, .int 0, .int 0, .int 0]) (C := RX0) (T := TX0) (N := 10) hx hb hts iX0 tyX0 tyX0_ok hown (hts _ cl_X3_25) (hts _ is_X0) (hts _ ni_X0) hK rfl (fun j hj => by rcases (show j = 0 ∨ j = 1 ∨ j = 2 ∨ j = 3 ∨ j = 4 ∨ j = 5 ∨ j = 6 ∨ j = 7 ∨ j = 8 ∨ j = 9 by omega) with rfl | rfl | rfl | rfl | rfl | rfl | rfl | rfl | rfl | rfl <;> rfl) (Nat.le_of_ble_eq_true rfl) (Nat.le_of_ble_eq_true rfl) dX3_plan_146 (fun H1 hc1 hz1 ho1 => ?_)
  have h00 := (hH.1 0 0 rfl).kept (ho1 _ (hH.lt (k := 0) (i := 0) rfl))
  have hS1 : va_S A s.heap H1 locs := ⟨Nat.le_trans hS.1 (by omega), fun q h1 h2 => (ho1 q (Nat.lt_of_lt_of_le h1 hS.1)).trans (hS.2.1 q h1 h2), hS.2.2⟩
  have hA3 : ∀ q, va_A [(H.size, .inr (0, [.int 0, .null, .int 0, .null, .int 0, .int 0, .int 0, .int 0, .int 0, .int 0]))] H1.size q → A q := fun q h => by
    have := hS.1
    rcases va_A1 h with h | h
    · exact hA2 q (by omega)
    · exact hA2 q (by omega)
  have hA1 : ∀ q, q < H1.size → va_A [(H.size, .inr (0, [.int 0, .null, .int 0, .null, .int 0, .int 0, .int 0, .int 0, .int 0, .int 0]))] H1.size q → A q := fun q _ h => hA3 q h
  have hsz2 : sz ≤ H.size := by rw [← hsz]; exact hS.1
  refine lv_dup hx hb dX3_plan_149 rfl ?_
  refine lv_aload_n hx hb dX3_plan_150 rfl (hl.2.2 _ (lk_mem (i := 0) rfl)) ?_
  refine va_get (C := RX3) (T := TX3) (N := 7) hx hb hts iX3 hown hK (cl_one h00) 0 rfl rfl 5 (Nat.le_of_ble_eq_true rfl) (hts _ fl_X3_35) (fun _ h => h) rfl dX3_plan_151 ?_
  refine lv_aload hx hb dX3_plan_154 (hl.2.2 _ (lk_mem (i := 6) rfl)) ?_
  refine lv_iload hx hb dX3_plan_156 (hl.2.2 _ (lk_mem (i := 5) rfl)) ?_
  refine va_callv (va_runI (As := [.int (I 0 0 5), .ref (g.2.2 2 j), .int y]) (rest := [.ref H.size]) ⟨hx, hb, hml, hown, hts⟩ (c_X0_init l g H.size H1.size (I 0 0 5) y (g.2.2 2 j)) (cwI 3 hts (gd_init co_X0) rfl rfl rfl (hts _ ni_X0) (hts _ ml_X3_141) (hts _ im_X0) rfl (by decide +kernel) ⟨Nat.le_of_ble_eq_true rfl, Nat.le_of_ble_eq_true rfl⟩) ⟨fun a U f mk q => by obtain ⟨q0, q1, qP, qK, qD⟩ := q; exact ⟨q0, q1, qP, va_K.moved (u := U) (U := U.calling f mk a) (Vm.Alike.refl U.vm) qK, qD⟩, fun U hU hW => ⟨rfl, by rw [hU], by rw [hU]; exact cl_one hc1, va_K.moved hW.alike hK, va_D1 trivial⟩⟩ rfl rfl (hl.1.trans hml) rfl (lv_room (Nat.le_of_ble_eq_true rfl)) dX3_plan_158 ⟨Nat.le_of_ble_eq_true rfl, Nat.le_of_ble_eq_true rfl⟩) hS1 hA1 hA3 (fun u t H2 locs2 ht hvm hw hB hz2 hk2 hS2 => ?_)
  obtain ⟨hP2, hD2⟩ := hB
  rw [ht] at hP2
  have hk3 : ∀ q : Nat, q < H.size → H2[q]? = H[q]? := fun q hq => (hk2 q (by omega) (fun h => by rcases va_A1 h with h | h <;> omega)).trans (ho1 q hq)
  have hne : H.size ≠ u 0 := fun q => absurd (hD2.1 0 1 _ _ rfl rfl q) (by decide)
  have hu : H.size ≤ u 0 := by
    rcases va_A1 (hD2.2 1 _ rfl) with h | h
    · exact absurd h.symm hne
    · exact Nat.le_trans (by omega) h
  have hH2 := hH.addH (a := H.size) (b := u 0) (m := j) (f := fH (I 0 0 5) y) (f2 := fun _ => 0) hR hj hk3 (Nat.le_refl _) hu hne (hP2 0 _ rfl) (hP2 1 _ rfl)
  have k2 : W p l e _ s mt args below meth cd H2 locs2 2 14 Q (F0 mt 161 ls [.ref ((gUp (gUp g 3 z.2 H.size) 11 z.2 (u 0)).2.2 3 z.2)]) := kk H.size (u 0) hsz2 (Nat.le_trans hsz2 hu) H2 locs2 ls hH2 hS2 hl hcat
  rw [show (gUp (gUp g 3 z.2 H.size) 11 z.2 (u 0)).2.2 3 z.2 = H.size from by show (if 3 = 11 ∧ z.2 = z.2 then u 0 else if 3 = 3 ∧ z.2 = z.2 then H.size else g.2.2 3 z.2) = H.size; simp] at k2
  exact k2
set_option maxRecDepth 20000 in
theorem m_X3_feeFor2 {l : Launch} {g : wG} {z : wZ} {I : wI} {P : wP} {O : wO} {m j : Nat} {x : Int32} (hf : I 2 m 2 = nI j) (hf6 : j < 6) (hm2 : wAl z 2 m) : RT l yX3_feeFor cX3_feeFor 4 ((some .int)) { frames := 0, cells := 0, slots := 0, locals := 0 } g z [.ref (g.2.2 0 0), .ref (g.2.2 2 m), .int x] I P O (dp (some (.int (if I 5 0 j = 0 then x else 0))) (I) (P)) := by
  refine RT.of (own := RX3) rfl (by decide +kernel) (Nat.le_of_ble_eq_true rfl) rfl (fun K C hl hg hR => ?_)
  subst hl
  subst hg
  refine g_aload_n (pc' := 1) C dX3_feeFor_0 rfl rfl ?_
  refine f_X3_227 (pc' := 4) C dX3_feeFor_1 (by first | assumption | exact rfl | exact al13 rfl | exact Nat.le_of_ble_eq_true rfl) rfl ?_
  refine g_if_lt (tgt := 35) (pc' := 7) C dX3_feeFor_4 (by decide) rfl (fun c1 => absurd c1 (by rw [hf]; exact nI_pos (by omega))) (fun c1 => ?_)
  refine g_aload_n (pc' := 8) C dX3_feeFor_7 rfl rfl ?_
  refine f_X3_227 (pc' := 11) C dX3_feeFor_8 (by first | assumption | exact rfl | exact al13 rfl | exact Nat.le_of_ble_eq_true rfl) rfl ?_
  refine g_aload_n (pc' := 12) C dX3_feeFor_11 rfl rfl ?_
  refine f_X3_15 (pc' := 15) C dX3_feeFor_12 (by first | assumption | exact rfl | exact al13 rfl | exact Nat.le_of_ble_eq_true rfl) rfl ?_
  refine g_alen (pc' := 16) (v := 6) (t0 := 1) C dX3_feeFor_15 (by first | assumption | exact rfl | exact al13 rfl | exact Nat.le_of_ble_eq_true rfl) rfl rfl rfl rfl ?_
  refine g_icmp_ge (tgt := 35) (pc' := 19) C dX3_feeFor_16 (by decide) rfl (fun c2 => absurd c2 (by rw [hf]; exact nI_ge (a := j) (b := 6) hf6 (by decide))) (fun c2 => ?_)
  refine g_aload_n (pc' := 20) C dX3_feeFor_19 rfl rfl ?_
  refine f_X3_15 (pc' := 23) C dX3_feeFor_20 (by first | assumption | exact rfl | exact al13 rfl | exact Nat.le_of_ble_eq_true rfl) rfl ?_
  refine g_aload_n (pc' := 24) C dX3_feeFor_23 rfl rfl ?_
  refine f_X3_227 (pc' := 27) C dX3_feeFor_24 (by first | assumption | exact rfl | exact al13 rfl | exact Nat.le_of_ble_eq_true rfl) rfl ?_
  refine g_zald (pc' := 28) C (j) hf hf6 dX3_feeFor_27 (by first | assumption | exact rfl | exact al13 rfl | exact Nat.le_of_ble_eq_true rfl) rfl rfl rfl ?_
  refine g_if_eq (tgt := 35) (pc' := 31) C dX3_feeFor_28 (by decide) rfl (fun c3 => ?_) (fun c3 => ?_)
  ·
    refine g_iconst (v := 0) (pc' := 36) C dX3_feeFor_35 (by decide) rfl ?_
    refine g_istore_n (pc' := 37) C dX3_feeFor_36 rfl rfl ?_
    refine g_iload_n (pc' := 38) C dX3_feeFor_37 rfl rfl ?_
    refine g_if_eq (tgt := 45) (pc' := 41) C dX3_feeFor_38 (by decide) rfl (fun c4 => ?_) (fun c4 => absurd (by first | decide | rw [thv]; decide) c4)
    refine g_iload_n (pc' := 46) C dX3_feeFor_45 rfl rfl ?_
    exact g_iret C hR dX3_feeFor_46 ⟨by simp [c1, c2, c3, c4] <;> (intros; simp_all) , rfl, rfl⟩
  ·
    refine g_iconst (v := 1) (pc' := 32) C dX3_feeFor_31 (by decide) rfl ?_
    refine g_goto (tgt := 36) C dX3_feeFor_32 (by decide) ?_
    refine g_istore_n (pc' := 37) C dX3_feeFor_36 rfl rfl ?_
    refine g_iload_n (pc' := 38) C dX3_feeFor_37 rfl rfl ?_
    refine g_if_eq (tgt := 45) (pc' := 41) C dX3_feeFor_38 (by decide) rfl (fun c5 => absurd c5 (by first | decide | rw [thv]; decide)) (fun c5 => ?_)
    refine g_iconst (v := 0) (pc' := 42) C dX3_feeFor_41 (by decide) rfl ?_
    refine g_goto (tgt := 46) C dX3_feeFor_42 (by decide) ?_
    exact g_iret C hR dX3_feeFor_46 ⟨by simp [c1, c2, c3, c5] <;> (intros; simp_all) , rfl, rfl⟩
def cK2 (I : wI) (x y w v : Int32) : Int32 := if inn x 4 = false ∨ inn y 6 = false ∨ inn w 6 = false ∨ inN v = false then 1 else if y = w then 2 else if inn (I 0 0 4) 12 = false then 3 else 0
def cO2 (I : wI) (M : Nat) (x y w v : Int32) : wI := upI (upI (rowI I 2 M (fM (I 0 0 4) x y w v (I 0 0 6 + 100))) 2 M 6 (0 - if I 5 0 y.toNatClampNeg = 0 then 50 else 0)) 0 0 4 (I 0 0 4 + 1)
abbrev pF (k : Int32) (g : wG) (z : wZ) (sz : Nat) (I1 : wI) (P1 : wP) (O1 : wO) : wPost := fun v' g' z' I' P' O' => k = 0 ∧ v' = some (.int (nI z.1)) ∧ (∃ a, sz ≤ a ∧ g' = gUp g 2 z.1 a) ∧ z' = (z.1 + 1, z.2) ∧ I' = I1 ∧ P' = P1 ∧ O' = O1
set_option maxRecDepth 20000 in
theorem l_X3_file {K : wK} {z : wZ} {I : wI} {P : wP} {O : wO} {sz : Nat} {post : wPost} {xp : String → Prop} {g0 : wG} {z0 : wZ} {I0 : wI} {P0 : wP} {O0 : wO} {j : Nat} {x y w v : Int32} (C : Cx K cX3_file RX3 6 (some .int) { frames := 6, cells := 1, slots := 8, locals := 90 } (z.1 + 1, z.2)) (hR : Rq K g0 z0 sz I0 P0 O0 1 8 post xp) (h04 : I 0 0 4 = nI z.1) (hM : z.1 < 12) (hf : I 2 z.1 2 = nI j) (hf6 : j < 6) (hpost : post (some (.int (I 2 z.1 0))) (Kg K) (z.1 + 1, z.2) (upI (upI I 2 z.1 6 (I 2 z.1 6 - if I 5 0 j = 0 then 50 else 0)) 0 0 4 (I 0 0 4 + 1)) (upP P 6 0 z.1 (some z.1)) O) : G K (z.1 + 1, z.2) I P O 1 8 108 [(0, .ref ((Kg K).2.2 0 0)), (1, .int x), (2, .int y), (3, .int w), (4, .int v)] [.ref ((Kg K).2.2 2 z.1)] := by
  have hm2 : wAl (z.1 + 1, z.2) 2 z.1 := Nat.lt_succ_self _
  refine g_astore (pc' := 110) C dX3_file_108 rfl rfl ?_
  refine g_aload (pc' := 112) C dX3_file_110 rfl rfl ?_
  refine g_dup (pc' := 113) C dX3_file_112 rfl rfl ?_
  refine f_X3_85 (pc' := 116) C dX3_file_113 (by first | assumption | exact rfl | exact al13 rfl | exact Nat.le_of_ble_eq_true rfl) rfl ?_
  refine g_aload_n (pc' := 117) C dX3_file_116 rfl rfl ?_
  refine g_aload (pc' := 119) C dX3_file_117 rfl rfl ?_
  refine g_bipush (v := 50) (pc' := 121) C dX3_file_119 (by decide) rfl ?_
  refine k_X3_88 (pc' := 124) C (m_X3_feeFor2 hf hf6 hm2) dX3_file_121 (by first | assumption | exact rfl | exact al13 rfl | exact Nat.le_of_ble_eq_true rfl) ⟨⟨Nat.le_of_ble_eq_true rfl, Nat.le_of_ble_eq_true rfl⟩, rfl, rfl⟩ (Nat.le_of_ble_eq_true rfl) ⟨Nat.le_of_ble_eq_true rfl, Nat.le_of_ble_eq_true rfl⟩ rfl ?_
  refine g_isub (pc' := 125) C dX3_file_124 rfl ?_
  refine p_X3_85 (pc' := 128) C dX3_file_125 (by first | assumption | exact rfl | exact al13 rfl | exact Nat.le_of_ble_eq_true rfl) rfl ?_
  refine g_aload_n (pc' := 129) C dX3_file_128 rfl rfl ?_
  refine f_X3_21 (pc' := 132) C dX3_file_129 (by first | assumption | exact rfl | exact al13 rfl | exact Nat.le_of_ble_eq_true rfl) rfl ?_
  refine g_aload_n (pc' := 133) C dX3_file_132 rfl rfl ?_
  refine f_X3_31 (pc' := 136) C dX3_file_133 (by first | assumption | exact rfl | exact al13 rfl | exact Nat.le_of_ble_eq_true rfl) rfl ?_
  refine g_aload (pc' := 138) C dX3_file_136 rfl rfl ?_
  refine g_aast (pc' := 139) (t0 := 2) C (z.1) (by rw [← h04]; simp [upI_at]) hM dX3_file_138 (by first | assumption | exact rfl | exact al13 rfl | exact Nat.le_of_ble_eq_true rfl) (by first | assumption | exact rfl | exact al13 rfl | exact Nat.le_of_ble_eq_true rfl) (fun _ => rfl) rfl rfl rfl rfl rfl ?_
  refine g_aload_n (pc' := 140) C dX3_file_139 rfl rfl ?_
  refine g_dup (pc' := 141) C dX3_file_140 rfl rfl ?_
  refine f_X3_31 (pc' := 144) C dX3_file_141 (by first | assumption | exact rfl | exact al13 rfl | exact Nat.le_of_ble_eq_true rfl) rfl ?_
  refine g_iconst (v := 1) (pc' := 145) C dX3_file_144 (by decide) rfl ?_
  refine g_iadd (pc' := 146) C dX3_file_145 rfl ?_
  refine p_X3_31 (pc' := 149) C dX3_file_146 (by first | assumption | exact rfl | exact al13 rfl | exact Nat.le_of_ble_eq_true rfl) rfl ?_
  refine g_aload (pc' := 151) C dX3_file_149 rfl rfl ?_
  refine f_X3_92 (pc' := 154) C dX3_file_151 (by first | assumption | exact rfl | exact al13 rfl | exact Nat.le_of_ble_eq_true rfl) rfl ?_
  exact x_iret C hR dX3_file_154 (Nat.le_of_ble_eq_true rfl) (Nat.le_of_ble_eq_true rfl) (by simpa [upI_at] using hpost)
set_option maxRecDepth 20000 in
theorem m_X3_file {l : Launch} (hfl : l.stackTraces = false) {g : wG} {z : wZ} {I : wI} {P : wP} {O : wO} {x y w v : Int32} (X : XI z I P) (hRF : RF z P) (sz : Nat) : XT l yX3_file (.code yX3_file cX3_file 6 (some .int)) { frames := 6, cells := 1, slots := 8, locals := 90 } g z sz [.ref (g.2.2 0 0), .int x, .int y, .int w, .int v] I P O 1 8 (pF (cK2 I x y w v) g z sz (cO2 I z.1 x y w v) (upP P 6 0 z.1 (some z.1)) O) (xE [(1, tI), (2, tA), (3, tS)] (cK2 I x y w v)) := by
  refine XT.of (own := RX3) rfl (by decide +kernel) hfl (Nat.le_of_ble_eq_true rfl) rfl (fun K C hl hg hR hT => ?_)
  subst hl
  subst hg
  refine g_iload_n (pc' := 1) C dX3_file_0 rfl rfl ?_
  refine g_iconst (v := 4) (pc' := 2) C dX3_file_1 (by decide) rfl ?_
  refine k_X3_66 (pc' := 5) C (m_X3_isIn) dX3_file_2 ⟨⟨Nat.le_of_ble_eq_true rfl, Nat.le_of_ble_eq_true rfl⟩, rfl, rfl⟩ (Nat.le_of_ble_eq_true rfl) ⟨Nat.zero_le _, Nat.zero_le _⟩ rfl ?_
  refine g_if_eq (tgt := 35) (pc' := 8) C dX3_file_5 (by decide) rfl (fun c1 => ?_) (fun c1 => ?_)
  ·
    have c1 := b2_0.mp c1
    exact x_thr C hR hT xwI (List.mem_of_getElem? (i := 3) rfl) ⟨⟨Nat.le_of_ble_eq_true rfl, Nat.le_of_ble_eq_true rfl⟩, Nat.le_of_ble_eq_true rfl, Nat.le_of_ble_eq_true rfl⟩ ⟨Nat.le_of_ble_eq_true rfl, Nat.le_of_ble_eq_true rfl⟩ dX3_file_35 dX3_file_38 dX3_file_39 dX3_file_41 dX3_file_44 ⟨1, List.mem_of_getElem? (i := 0) rfl, by simp [cK2, inN, c1]⟩
  ·
    have c1 := b2_1.mp c1
    refine g_iload_n (pc' := 9) C dX3_file_8 rfl rfl ?_
    refine g_bipush (v := 6) (pc' := 11) C dX3_file_9 (by decide) rfl ?_
    refine k_X3_66 (pc' := 14) C (m_X3_isIn) dX3_file_11 ⟨⟨Nat.le_of_ble_eq_true rfl, Nat.le_of_ble_eq_true rfl⟩, rfl, rfl⟩ (Nat.le_of_ble_eq_true rfl) ⟨Nat.zero_le _, Nat.zero_le _⟩ rfl ?_
    refine g_if_eq (tgt := 35) (pc' := 17) C dX3_file_14 (by decide) rfl (fun c2 => ?_) (fun c2 => ?_)
    ·
      have c2 := b2_0.mp c2
      exact x_thr C hR hT xwI (List.mem_of_getElem? (i := 3) rfl) ⟨⟨Nat.le_of_ble_eq_true rfl, Nat.le_of_ble_eq_true rfl⟩, Nat.le_of_ble_eq_true rfl, Nat.le_of_ble_eq_true rfl⟩ ⟨Nat.le_of_ble_eq_true rfl, Nat.le_of_ble_eq_true rfl⟩ dX3_file_35 dX3_file_38 dX3_file_39 dX3_file_41 dX3_file_44 ⟨1, List.mem_of_getElem? (i := 0) rfl, by simp [cK2, inN, c1, c2]⟩
    ·
      have c2 := b2_1.mp c2
      refine g_iload_n (pc' := 18) C dX3_file_17 rfl rfl ?_
      refine g_bipush (v := 6) (pc' := 20) C dX3_file_18 (by decide) rfl ?_
      refine k_X3_66 (pc' := 23) C (m_X3_isIn) dX3_file_20 ⟨⟨Nat.le_of_ble_eq_true rfl, Nat.le_of_ble_eq_true rfl⟩, rfl, rfl⟩ (Nat.le_of_ble_eq_true rfl) ⟨Nat.zero_le _, Nat.zero_le _⟩ rfl ?_
      refine g_if_eq (tgt := 35) (pc' := 26) C dX3_file_23 (by decide) rfl (fun c3 => ?_) (fun c3 => ?_)
      ·
        have c3 := b2_0.mp c3
        exact x_thr C hR hT xwI (List.mem_of_getElem? (i := 3) rfl) ⟨⟨Nat.le_of_ble_eq_true rfl, Nat.le_of_ble_eq_true rfl⟩, Nat.le_of_ble_eq_true rfl, Nat.le_of_ble_eq_true rfl⟩ ⟨Nat.le_of_ble_eq_true rfl, Nat.le_of_ble_eq_true rfl⟩ dX3_file_35 dX3_file_38 dX3_file_39 dX3_file_41 dX3_file_44 ⟨1, List.mem_of_getElem? (i := 0) rfl, by simp [cK2, inN, c1, c2, c3]⟩
      ·
        have c3 := b2_1.mp c3
        refine g_iload (pc' := 28) C dX3_file_26 rfl rfl ?_
        refine g_iconst (v := 4) (pc' := 29) C dX3_file_28 (by decide) rfl ?_
        refine k_X3_70 (pc' := 32) C (m_X3_isInOrNone) dX3_file_29 ⟨⟨Nat.le_of_ble_eq_true rfl, Nat.le_of_ble_eq_true rfl⟩, rfl, rfl⟩ (Nat.le_of_ble_eq_true rfl) ⟨Nat.zero_le _, Nat.zero_le _⟩ rfl ?_
        refine g_if_ne (tgt := 45) (pc' := 35) C dX3_file_32 (by decide) rfl (fun c4 => ?_) (fun c4 => ?_)
        ·
          have c4 := b2_1.mp c4
          refine g_iload_n (pc' := 46) C dX3_file_45 rfl rfl ?_
          refine g_iload_n (pc' := 47) C dX3_file_46 rfl rfl ?_
          refine g_icmp_ne (tgt := 60) (pc' := 50) C dX3_file_47 (by decide) rfl (fun c5 => ?_) (fun c5 => ?_)
          ·
            refine g_aload_n (pc' := 61) C dX3_file_60 rfl rfl ?_
            refine f_X3_31 (pc' := 64) C dX3_file_61 (by first | assumption | exact rfl | exact al13 rfl | exact Nat.le_of_ble_eq_true rfl) rfl ?_
            refine g_aload_n (pc' := 65) C dX3_file_64 rfl rfl ?_
            refine f_X3_21 (pc' := 68) C dX3_file_65 (by first | assumption | exact rfl | exact al13 rfl | exact Nat.le_of_ble_eq_true rfl) rfl ?_
            refine g_alen (pc' := 69) (v := 12) (t0 := 2) C dX3_file_68 (by first | assumption | exact rfl | exact al13 rfl | exact Nat.le_of_ble_eq_true rfl) rfl rfl rfl rfl ?_
            refine k_X3_66 (pc' := 72) C (m_X3_isIn) dX3_file_69 ⟨⟨Nat.le_of_ble_eq_true rfl, Nat.le_of_ble_eq_true rfl⟩, rfl, rfl⟩ (Nat.le_of_ble_eq_true rfl) ⟨Nat.zero_le _, Nat.zero_le _⟩ rfl ?_
            refine g_if_ne (tgt := 85) (pc' := 75) C dX3_file_72 (by decide) rfl (fun c6 => ?_) (fun c6 => ?_)
            ·
              have c6 := b2_1.mp c6
              have hy : inn y 6 = true := by assumption
              have hn : inn (I 0 0 4) 12 = true := by assumption
              have hM : z.1 < 12 := by
                have h1 := X.2.2.1
                have h12 := X.1
                refine Classical.byContradiction fun q => ?_
                have : z.1 = 12 := by omega
                rw [h1, this] at hn
                exact absurd hn (by decide)
              obtain ⟨j, hj, hyj⟩ : ∃ j, j ≤ 5 ∧ y = nI j := inR_of (n := 5) (by decide) (by rw [inn6] at hy; exact hy)
              have hcy : y.toNatClampNeg = j := by rw [hyj]; exact nI_clamp (by omega)
              refine x_newM C hR hRF (fun a ha => ?_)
              have hk0 : cK2 I x y w v = 0 := by simp [cK2, inN, c1, c2, c3, c4, c5, c6]
              have hAl : ∀ k i, wAl (z.1 + 1, z.2) k i → Ka K ((gUp (Kg K) 2 z.1 a).2.2 k i) := fun k i hw => by
                rcases wAl_M hw with hw | ⟨rfl, rfl⟩
                · rw [gUp_M hw]; exact Cx.al C hw
                · rw [show (gUp (Kg K) 2 z.1 a).2.2 2 z.1 = a from if_pos ⟨rfl, rfl⟩]; exact Rq.sz hR ha
              refine l_X3_file (K := Kw K (gUp (Kg K) 2 z.1 a)) (I := rowI I 2 z.1 (fM (I 0 0 4) x y w v (I 0 0 6 + 100))) (P := P) (x := x) (y := y) (w := w) (v := v) (C.up rfl rfl hAl) (hR.up (gUp (Kg K) 2 z.1 a)) (j := j) (by rw [rowI_off (by omega)]; exact X.2.2.1) hM (by rw [rowI_at]; exact hyj) (by omega) ⟨hk0, ?_, ⟨a, ha, rfl⟩, rfl, ?_, rfl, rfl⟩
              · rw [rowI_at]; show some (Value.int (I 0 0 4)) = _; rw [X.2.2.1]
              · unfold cO2
                rw [hcy, rowI_at, rowI_off (by omega), rowI_off (by omega)]
                rfl
            ·
              have c6 := b2_0.mp c6
              exact x_thr C hR hT xwS (List.mem_of_getElem? (i := 5) rfl) ⟨⟨Nat.le_of_ble_eq_true rfl, Nat.le_of_ble_eq_true rfl⟩, Nat.le_of_ble_eq_true rfl, Nat.le_of_ble_eq_true rfl⟩ ⟨Nat.le_of_ble_eq_true rfl, Nat.le_of_ble_eq_true rfl⟩ dX3_file_75 dX3_file_78 dX3_file_79 dX3_file_81 dX3_file_84 ⟨3, List.mem_of_getElem? (i := 2) rfl, by simp [cK2, inN, c1, c2, c3, c4, c5, c6]⟩
          ·
            exact x_thr C hR hT xwA (List.mem_of_getElem? (i := 4) rfl) ⟨⟨Nat.le_of_ble_eq_true rfl, Nat.le_of_ble_eq_true rfl⟩, Nat.le_of_ble_eq_true rfl, Nat.le_of_ble_eq_true rfl⟩ ⟨Nat.le_of_ble_eq_true rfl, Nat.le_of_ble_eq_true rfl⟩ dX3_file_50 dX3_file_53 dX3_file_54 dX3_file_56 dX3_file_59 ⟨2, List.mem_of_getElem? (i := 1) rfl, by simp [cK2, inN, c1, c2, c3, c4, c5]⟩
        ·
          have c4 := b2_0.mp c4
          exact x_thr C hR hT xwI (List.mem_of_getElem? (i := 3) rfl) ⟨⟨Nat.le_of_ble_eq_true rfl, Nat.le_of_ble_eq_true rfl⟩, Nat.le_of_ble_eq_true rfl, Nat.le_of_ble_eq_true rfl⟩ ⟨Nat.le_of_ble_eq_true rfl, Nat.le_of_ble_eq_true rfl⟩ dX3_file_35 dX3_file_38 dX3_file_39 dX3_file_41 dX3_file_44 ⟨1, List.mem_of_getElem? (i := 0) rfl, by simp [cK2, inN, c1, c2, c3, c4]⟩
def cK8 (I : wI) (P : wP) (M N : Nat) (x r w a y : Int32) : Int32 := if oM x M = true ∨ inn r 4 = false ∨ inN w = false then 1 else if a ≤ I 0 0 6 ∨ 999 < a ∨ y < 1 ∨ ¬ y ≤ 4 then 2 else if isOp (I 2 x.toNatClampNeg 5) = false ∨ asN I x.toNatClampNeg w = false ∨ inn (I 0 0 5) 24 = false ∨ ¬ crL I P none x.toNatClampNeg r w a y N 0 0 = 0 then 3 else 0
def cB8 (I : wI) (N : Nat) (y : Int32) : wI := upI (rowI (rowI I 3 N (fH (I 0 0 5) y)) 11 N (fun _ => 0)) 0 0 5 (I 0 0 5 + 1)
def cP8 (P : wP) (N m : Nat) : wP := upP (upP P 3 N 1 (some m)) 7 0 N (some N)
def cO8 (I : wI) (P : wP) (N : Nat) (x r w a y : Int32) : wI × wP := putC (cB8 I N y) (cP8 P N x.toNatClampNeg) N r w a
abbrev pN (k : Int32) (g : wG) (z : wZ) (sz : Nat) (I1 : wI) (P1 : wP) (O1 : wO) : wPost := fun v' g' z' I' P' O' => k = 0 ∧ v' = some (.int (nI z.2)) ∧ (∃ b c, sz ≤ b ∧ sz ≤ c ∧ g' = gUp (gUp g 3 z.2 b) 11 z.2 c) ∧ z' = (z.1, z.2 + 1) ∧ I' = I1 ∧ P' = P1 ∧ O' = O1
theorem ptL_num {i m h : Nat} {fr now : Int32} {j c : Nat} : ∀ (n k : Nat) (s : wI × wP), (ptL i m h fr now n k s).1 3 j c = s.1 3 j c
  | 0, _, _ => rfl
  | n + 1, k, s => by
    show (ptL i m h fr now n (k + 1) (ptS i m h fr now k s)).1 3 j c = _
    rw [ptL_num n (k + 1)]
    unfold ptS
    dsimp only
    rw [upI_at, if_neg (by omega), tkI_off (by omega)]
theorem p0L_num {h j c : Nat} : ∀ (n k : Nat) (I : wI), p0L h n k I 3 j c = I 3 j c
  | 0, _, _ => rfl
  | n + 1, k, I => by
    show p0L h n (k + 1) (upI I 11 h k 0) 3 j c = _
    rw [p0L_num n (k + 1), upI_at, if_neg (by omega)]
theorem putC_num {I : wI} {P : wP} {h j : Nat} {r w a : Int32} : (putC I P h r w a).1 3 j 0 = I 3 j 0 := by
  unfold putC
  split
  · show putB (p0L h (hrN I h) 0 (sA I h r w a)) (mx P h) h 3 j 0 = _
    unfold putB
    rw [upI_at, if_neg (by omega), p0L_num, sA_off (by omega)]
  · show putB (ptL w.toNatClampNeg (mx P h) h a (I 0 0 6) (hrN I h) 0 (sA I h r w a, P)).1 (mx P h) h 3 j 0 = _
    unfold putB
    rw [upI_at, if_neg (by omega), ptL_num]
    exact sA_off (by omega)
set_option maxRecDepth 20000 in
theorem l_X3_plan {K : wK} {z : wZ} {I : wI} {P : wP} {O : wO} {sz : Nat} {post : wPost} {xp : String → Prop} {g0 : wG} {z0 : wZ} {I0 : wI} {P0 : wP} {O0 : wO} {j : Nat} {x r w a y : Int32} (C : Cx K cX3_plan RX3 8 (some .int) { frames := 6, cells := 2, slots := 14, locals := 96 } (z.1, z.2 + 1)) (hR : Rq K g0 z0 sz I0 P0 O0 2 14 post xp) (h05 : I 0 0 5 = nI z.2) (hN : z.2 < 24) (X : XI (z.1, z.2 + 1) (upI I 0 0 5 (I 0 0 5 + 1)) (upP P 7 0 z.2 (some z.2))) (hpost : post (some (.int (I 3 z.2 0))) (Kg K) (z.1, z.2 + 1) (putC (upI I 0 0 5 (I 0 0 5 + 1)) (upP P 7 0 z.2 (some z.2)) z.2 r w a).1 (putC (upI I 0 0 5 (I 0 0 5 + 1)) (upP P 7 0 z.2 (some z.2)) z.2 r w a).2 O) : G K (z.1, z.2 + 1) I P O 2 14 161 [(0, .ref ((Kg K).2.2 0 0)), (1, .int x), (2, .int r), (3, .int w), (4, .int a), (5, .int y), (6, .ref ((Kg K).2.2 2 j))] [.ref ((Kg K).2.2 3 z.2)] := by
  have hh : wAl (z.1, z.2 + 1) 3 z.2 := Nat.lt_succ_self _
  have hnum : ∀ I P, (putC I P z.2 r w a).1 3 z.2 0 = I 3 z.2 0 := fun _ _ => putC_num
  refine g_astore (pc' := 163) C dX3_plan_161 rfl rfl ?_
  refine g_aload_n (pc' := 164) C dX3_plan_163 rfl rfl ?_
  refine f_X3_27 (pc' := 167) C dX3_plan_164 (by first | assumption | exact rfl | exact al13 rfl | exact Nat.le_of_ble_eq_true rfl) rfl ?_
  refine g_aload_n (pc' := 168) C dX3_plan_167 rfl rfl ?_
  refine f_X3_35 (pc' := 171) C dX3_plan_168 (by first | assumption | exact rfl | exact al13 rfl | exact Nat.le_of_ble_eq_true rfl) rfl ?_
  refine g_aload (pc' := 173) C dX3_plan_171 rfl rfl ?_
  refine g_aast (pc' := 174) (t0 := 3) C (z.2) h05 hN dX3_plan_173 (by first | assumption | exact rfl | exact al13 rfl | exact Nat.le_of_ble_eq_true rfl) (by first | assumption | exact rfl | exact al13 rfl | exact Nat.le_of_ble_eq_true rfl) (fun _ => rfl) rfl rfl rfl rfl rfl ?_
  refine g_aload_n (pc' := 175) C dX3_plan_174 rfl rfl ?_
  refine g_dup (pc' := 176) C dX3_plan_175 rfl rfl ?_
  refine f_X3_35 (pc' := 179) C dX3_plan_176 (by first | assumption | exact rfl | exact al13 rfl | exact Nat.le_of_ble_eq_true rfl) rfl ?_
  refine g_iconst (v := 1) (pc' := 180) C dX3_plan_179 (by decide) rfl ?_
  refine g_iadd (pc' := 181) C dX3_plan_180 rfl ?_
  refine p_X3_35 (pc' := 184) C dX3_plan_181 (by first | assumption | exact rfl | exact al13 rfl | exact Nat.le_of_ble_eq_true rfl) rfl ?_
  refine g_aload_n (pc' := 185) C dX3_plan_184 rfl rfl ?_
  refine g_aload (pc' := 187) C dX3_plan_185 rfl rfl ?_
  refine g_iload_n (pc' := 188) C dX3_plan_187 rfl rfl ?_
  refine g_iload_n (pc' := 189) C dX3_plan_188 rfl rfl ?_
  refine g_iload (pc' := 191) C dX3_plan_189 rfl rfl ?_
  rcases in_of w 4 (by decide) with ⟨i, hi4, hwi⟩ | hw
  · have hnw : ¬ (w < 0 ∨ 4 ≤ w) := by rw [hwi]; exact fun e => e.elim (nI_pos (by omega)) (nI_ge (a := i) (b := 4) hi4 (by decide))
    have hcw : w.toNatClampNeg = i := by rw [hwi]; exact nI_clamp (by omega)
    have hi : wAl (z.1, z.2 + 1) 1 i := hi4
    have e8 : putC (upI I 0 0 5 (I 0 0 5 + 1)) (upP P 7 0 z.2 (some z.2)) z.2 r w a = putS (upI I 0 0 5 (I 0 0 5 + 1)) (upP P 7 0 z.2 (some z.2)) z.2 i r w a := by unfold putC; rw [if_neg hnw, hcw]
    refine k_X3_144 (pc' := 194) C (m_X3_putS X hh hwi hi) dX3_plan_191 (by first | assumption | exact rfl | exact al13 rfl | exact Nat.le_of_ble_eq_true rfl) ⟨⟨Nat.le_of_ble_eq_true rfl, Nat.le_of_ble_eq_true rfl⟩, rfl, rfl⟩ (Nat.le_of_ble_eq_true rfl) ⟨Nat.le_of_ble_eq_true rfl, Nat.le_of_ble_eq_true rfl⟩ rfl ?_
    refine g_aload (pc' := 196) C dX3_plan_194 rfl rfl ?_
    refine f_X3_148 (pc' := 199) C dX3_plan_196 (by first | assumption | exact rfl | exact al13 rfl | exact Nat.le_of_ble_eq_true rfl) rfl ?_
    have hn2 := hnum (upI I 0 0 5 (I 0 0 5 + 1)) (upP P 7 0 z.2 (some z.2))
    rw [upI_at, if_neg (by omega)] at hn2
    rw [e8] at hn2 hpost
    refine x_iret C hR dX3_plan_199 (Nat.le_of_ble_eq_true rfl) (Nat.le_of_ble_eq_true rfl) ?_
    rw [← hn2] at hpost
    exact hpost
  · have hnw : w < 0 ∨ 4 ≤ w := hw
    have e8 : putC (upI I 0 0 5 (I 0 0 5 + 1)) (upP P 7 0 z.2 (some z.2)) z.2 r w a = (putN (upI I 0 0 5 (I 0 0 5 + 1)) (upP P 7 0 z.2 (some z.2)) z.2 r w a, upP P 7 0 z.2 (some z.2)) := by unfold putC; rw [if_pos hnw]
    refine k_X3_144 (pc' := 194) C (m_X3_putN X hh hnw) dX3_plan_191 (by first | assumption | exact rfl | exact al13 rfl | exact Nat.le_of_ble_eq_true rfl) ⟨⟨Nat.le_of_ble_eq_true rfl, Nat.le_of_ble_eq_true rfl⟩, rfl, rfl⟩ (Nat.le_of_ble_eq_true rfl) ⟨Nat.le_of_ble_eq_true rfl, Nat.le_of_ble_eq_true rfl⟩ rfl ?_
    refine g_aload (pc' := 196) C dX3_plan_194 rfl rfl ?_
    refine f_X3_148 (pc' := 199) C dX3_plan_196 (by first | assumption | exact rfl | exact al13 rfl | exact Nat.le_of_ble_eq_true rfl) rfl ?_
    have hn2 := hnum (upI I 0 0 5 (I 0 0 5 + 1)) (upP P 7 0 z.2 (some z.2))
    rw [upI_at, if_neg (by omega)] at hn2
    rw [e8] at hn2 hpost
    refine x_iret C hR dX3_plan_199 (Nat.le_of_ble_eq_true rfl) (Nat.le_of_ble_eq_true rfl) ?_
    rw [← hn2] at hpost
    exact hpost
theorem XI.pl {z : wZ} {I : wI} {P : wP} (X : XI z I P) (hN : z.2 < 24) {m k : Nat} (hm : m < z.1) {y : Int32} (hy : y = nI k) (hk : k ≤ 4) : XI (z.1, z.2 + 1) (cB8 I z.2 y) (cP8 P z.2 m) := by
  obtain ⟨a, b, c, d, e, f, g, h, i, j, k2⟩ := X
  have hP3 : ∀ q, cP8 P z.2 m 3 q 1 = if q = z.2 then some m else P 3 q 1 := fun q => by unfold cP8; simp [upP_at]
  have hP7 : ∀ q, cP8 P z.2 m 7 0 q = if q = z.2 then some z.2 else P 7 0 q := fun q => by unfold cP8; simp [upP_at]
  have hPo : ∀ k i c, k ≠ 3 → k ≠ 7 → cP8 P z.2 m k i c = P k i c := fun k i c h1 h2 => by unfold cP8; rw [upP_at, if_neg (by omega), upP_at, if_neg (by omega)]
  have hI : ∀ k i c, k ≠ 0 → k ≠ 3 → k ≠ 11 → cB8 I z.2 y k i c = I k i c := fun k i c h1 h2 h3 => by unfold cB8; rw [upI_at, if_neg (by omega), rowI_off (by omega), rowI_off (by omega)]
  have hI3 : ∀ q, cB8 I z.2 y 3 q = if q = z.2 then fH (I 0 0 5) y else I 3 q := fun q => by
    unfold cB8
    rw [upI_off _ _ (by omega), rowI_off (by omega)]
    by_cases e : q = z.2
    · subst e; rw [rowI_at, if_pos rfl]
    · rw [rowI_off (by omega), if_neg e]
  refine ⟨a, (show z.2 + 1 ≤ 24 by omega), ?_, ?_, fun q hq => ?_, fun q hq => ?_, fun q hq => ?_, fun q hq => ?_, fun i2 p q hi hp hq => ?_, fun q hq => ?_, fun q hq => ?_⟩
  · unfold cB8; rw [upI_at, if_neg (by omega), rowI_off (by omega), rowI_off (by omega)]; exact c
  · show cB8 I z.2 y 0 0 5 = nI (z.2 + 1)
    unfold cB8; rw [upI_at, if_pos ⟨rfl, rfl, rfl⟩, d, nI_1]
  · rw [hPo _ _ _ (by decide) (by decide)]; exact e q hq
  · have hq : q < z.2 + 1 := hq
    rw [hP7]
    by_cases e : q = z.2
    · rw [if_pos e, e]
    · rw [if_neg e]; exact f q (by omega)
  · rw [hPo _ _ _ (by decide) (by decide)]; exact g q hq
  · have hq : q < z.2 + 1 := hq
    unfold mx
    rw [hP3]
    by_cases e : q = z.2
    · rw [if_pos e]; exact ⟨rfl, hm⟩
    · rw [if_neg e]; exact h q (by omega)
  · rw [hPo _ _ _ (by decide) (by decide)] at hq; exact i i2 p q hi hp hq
  · have hq : q < z.2 + 1 := hq
    unfold hrN
    rw [hI3]
    by_cases e : q = z.2
    · rw [if_pos e]
      show y = nI y.toNatClampNeg ∧ y.toNatClampNeg ≤ 4
      rw [hy, nI_clamp (by omega)]
      exact ⟨rfl, hk⟩
    · rw [if_neg e]; exact j q (by omega)
  · unfold fsN
    rw [hI _ _ _ (by decide) (by decide) (by decide)]; exact k2 q hq
set_option maxRecDepth 20000 in
theorem m_X3_plan {l : Launch} (hfl : l.stackTraces = false) {g : wG} {z : wZ} {I : wI} {P : wP} {O : wO} {x r w a y : Int32} (X : XI z I P) (hRF : RF z P) (sz : Nat) : XT l yX3_plan (.code yX3_plan cX3_plan 8 (some .int)) { frames := 6, cells := 2, slots := 14, locals := 96 } g z sz [.ref (g.2.2 0 0), .int x, .int r, .int w, .int a, .int y] I P O 2 14 (pN (cK8 I P z.1 z.2 x r w a y) g z sz (cO8 I P z.2 x r w a y).1 (cO8 I P z.2 x r w a y).2 O) (xE [(1, tI), (2, tA), (3, tS)] (cK8 I P z.1 z.2 x r w a y)) := by
  refine XT.of (own := RX3) rfl (by decide +kernel) hfl (Nat.le_of_ble_eq_true rfl) rfl (fun K C hl hg hR hT => ?_)
  subst hl
  subst hg
  refine g_aload_n (pc' := 1) C dX3_plan_0 rfl rfl ?_
  refine g_iload_n (pc' := 2) C dX3_plan_1 rfl rfl ?_
  rcases in_of x z.1 (by have := X.1; have := X.2.1; omega) with ⟨j, hj, hxj⟩ | hx
  · have hn : oM x z.1 = false := oM_F hj hxj (by have := X.1; have := X.2.1; omega)
    have hcl : x.toNatClampNeg = j := by rw [hxj]; exact nI_clamp (by have := X.1; have := X.2.1; omega)
    have hm2 : wAl z 2 j := hj
    refine k_X3_95 (pc' := 5) C (m_X3_matterAtS X hxj hj) dX3_plan_2 (by first | assumption | exact rfl | exact al13 rfl | exact Nat.le_of_ble_eq_true rfl) ⟨⟨Nat.le_of_ble_eq_true rfl, Nat.le_of_ble_eq_true rfl⟩, rfl, rfl⟩ (Nat.le_of_ble_eq_true rfl) ⟨Nat.zero_le _, Nat.zero_le _⟩ rfl ?_
    refine g_astore (pc' := 7) C dX3_plan_5 rfl rfl ?_
    refine g_aload (pc' := 9) C dX3_plan_7 rfl rfl ?_
    refine g_ifnull (pc' := 12) C dX3_plan_9 rfl ?_
    refine g_iload_n (pc' := 13) C dX3_plan_12 rfl rfl ?_
    refine g_iconst (v := 4) (pc' := 14) C dX3_plan_13 (by decide) rfl ?_
    refine k_X3_66 (pc' := 17) C (m_X3_isIn) dX3_plan_14 ⟨⟨Nat.le_of_ble_eq_true rfl, Nat.le_of_ble_eq_true rfl⟩, rfl, rfl⟩ (Nat.le_of_ble_eq_true rfl) ⟨Nat.zero_le _, Nat.zero_le _⟩ rfl ?_
    refine g_if_eq (tgt := 28) (pc' := 20) C dX3_plan_17 (by decide) rfl (fun c1 => ?_) (fun c1 => ?_)
    ·
      have c1 := b2_0.mp c1
      exact x_thr C hR hT xwI (List.mem_of_getElem? (i := 8) rfl) ⟨⟨Nat.le_of_ble_eq_true rfl, Nat.le_of_ble_eq_true rfl⟩, Nat.le_of_ble_eq_true rfl, Nat.le_of_ble_eq_true rfl⟩ ⟨Nat.le_of_ble_eq_true rfl, Nat.le_of_ble_eq_true rfl⟩ dX3_plan_28 dX3_plan_31 dX3_plan_32 dX3_plan_34 dX3_plan_37 ⟨1, List.mem_of_getElem? (i := 0) rfl, by simp [cK8, inN, hn, hcl, c1]⟩
    ·
      have c1 := b2_1.mp c1
      refine g_iload_n (pc' := 21) C dX3_plan_20 rfl rfl ?_
      refine g_iconst (v := 4) (pc' := 22) C dX3_plan_21 (by decide) rfl ?_
      refine k_X3_70 (pc' := 25) C (m_X3_isInOrNone) dX3_plan_22 ⟨⟨Nat.le_of_ble_eq_true rfl, Nat.le_of_ble_eq_true rfl⟩, rfl, rfl⟩ (Nat.le_of_ble_eq_true rfl) ⟨Nat.zero_le _, Nat.zero_le _⟩ rfl ?_
      refine g_if_ne (tgt := 38) (pc' := 28) C dX3_plan_25 (by decide) rfl (fun c2 => ?_) (fun c2 => ?_)
      ·
        have c2 := b2_1.mp c2
        refine g_iload (pc' := 40) C dX3_plan_38 rfl rfl ?_
        refine g_aload_n (pc' := 41) C dX3_plan_40 rfl rfl ?_
        refine f_X3_38 (pc' := 44) C dX3_plan_41 (by first | assumption | exact rfl | exact al13 rfl | exact Nat.le_of_ble_eq_true rfl) rfl ?_
        refine g_icmp_le (tgt := 67) (pc' := 47) C dX3_plan_44 (by decide) rfl (fun c3 => ?_) (fun c3 => ?_)
        ·
          exact x_thr C hR hT xwA (List.mem_of_getElem? (i := 9) rfl) ⟨⟨Nat.le_of_ble_eq_true rfl, Nat.le_of_ble_eq_true rfl⟩, Nat.le_of_ble_eq_true rfl, Nat.le_of_ble_eq_true rfl⟩ ⟨Nat.le_of_ble_eq_true rfl, Nat.le_of_ble_eq_true rfl⟩ dX3_plan_67 dX3_plan_70 dX3_plan_71 dX3_plan_73 dX3_plan_76 ⟨2, List.mem_of_getElem? (i := 1) rfl, by simp [cK8, inN, hn, hcl, c1, c2, c3]⟩
        ·
          refine g_iload (pc' := 49) C dX3_plan_47 rfl rfl ?_
          refine g_sipush (v := 999) (pc' := 52) C dX3_plan_49 (by decide) rfl ?_
          refine g_icmp_gt (tgt := 67) (pc' := 55) C dX3_plan_52 (by decide) rfl (fun c4 => ?_) (fun c4 => ?_)
          ·
            exact x_thr C hR hT xwA (List.mem_of_getElem? (i := 9) rfl) ⟨⟨Nat.le_of_ble_eq_true rfl, Nat.le_of_ble_eq_true rfl⟩, Nat.le_of_ble_eq_true rfl, Nat.le_of_ble_eq_true rfl⟩ ⟨Nat.le_of_ble_eq_true rfl, Nat.le_of_ble_eq_true rfl⟩ dX3_plan_67 dX3_plan_70 dX3_plan_71 dX3_plan_73 dX3_plan_76 ⟨2, List.mem_of_getElem? (i := 1) rfl, by simp [cK8, inN, hn, hcl, c1, c2, c3, c4]⟩
          ·
            refine g_iload (pc' := 57) C dX3_plan_55 rfl rfl ?_
            refine g_iconst (v := 1) (pc' := 58) C dX3_plan_57 (by decide) rfl ?_
            refine g_icmp_lt (tgt := 67) (pc' := 61) C dX3_plan_58 (by decide) rfl (fun c5 => ?_) (fun c5 => ?_)
            ·
              exact x_thr C hR hT xwA (List.mem_of_getElem? (i := 9) rfl) ⟨⟨Nat.le_of_ble_eq_true rfl, Nat.le_of_ble_eq_true rfl⟩, Nat.le_of_ble_eq_true rfl, Nat.le_of_ble_eq_true rfl⟩ ⟨Nat.le_of_ble_eq_true rfl, Nat.le_of_ble_eq_true rfl⟩ dX3_plan_67 dX3_plan_70 dX3_plan_71 dX3_plan_73 dX3_plan_76 ⟨2, List.mem_of_getElem? (i := 1) rfl, by simp [cK8, inN, hn, hcl, c1, c2, c3, c4, c5]⟩
            ·
              refine g_iload (pc' := 63) C dX3_plan_61 rfl rfl ?_
              refine g_iconst (v := 4) (pc' := 64) C dX3_plan_63 (by decide) rfl ?_
              refine g_icmp_le (tgt := 77) (pc' := 67) C dX3_plan_64 (by decide) rfl (fun c6 => ?_) (fun c6 => ?_)
              ·
                refine g_aload (pc' := 79) C dX3_plan_77 rfl rfl ?_
                refine k_X3_125 (pc' := 82) C (m_X2_isOpen hm2) dX3_plan_79 (by first | assumption | exact rfl | exact al13 rfl | exact Nat.le_of_ble_eq_true rfl) ⟨⟨Nat.le_of_ble_eq_true rfl, Nat.le_of_ble_eq_true rfl⟩, rfl, rfl⟩ (Nat.le_of_ble_eq_true rfl) ⟨Nat.zero_le _, Nat.zero_le _⟩ rfl ?_
                refine g_if_eq (tgt := 110) (pc' := 85) C dX3_plan_82 (by decide) rfl (fun c7 => ?_) (fun c7 => ?_)
                ·
                  have c7 := b2_0.mp c7
                  exact x_thr C hR hT xwS (List.mem_of_getElem? (i := 10) rfl) ⟨⟨Nat.le_of_ble_eq_true rfl, Nat.le_of_ble_eq_true rfl⟩, Nat.le_of_ble_eq_true rfl, Nat.le_of_ble_eq_true rfl⟩ ⟨Nat.le_of_ble_eq_true rfl, Nat.le_of_ble_eq_true rfl⟩ dX3_plan_110 dX3_plan_113 dX3_plan_114 dX3_plan_116 dX3_plan_119 ⟨3, List.mem_of_getElem? (i := 2) rfl, by simp [cK8, inN, hn, hcl, c1, c2, c3, c4, c5, c6, c7]⟩
                ·
                  have c7 := b2_1.mp c7
                  refine g_aload_n (pc' := 86) C dX3_plan_85 rfl rfl ?_
                  refine g_aload (pc' := 88) C dX3_plan_86 rfl rfl ?_
                  refine g_iload_n (pc' := 89) C dX3_plan_88 rfl rfl ?_
                  refine k_X3_129 (pc' := 92) C (m_X3_isAsNeeded X hm2) dX3_plan_89 (by first | assumption | exact rfl | exact al13 rfl | exact Nat.le_of_ble_eq_true rfl) ⟨⟨Nat.le_of_ble_eq_true rfl, Nat.le_of_ble_eq_true rfl⟩, rfl, rfl⟩ (Nat.le_of_ble_eq_true rfl) ⟨Nat.zero_le _, Nat.zero_le _⟩ rfl ?_
                  refine g_if_eq (tgt := 110) (pc' := 95) C dX3_plan_92 (by decide) rfl (fun c8 => ?_) (fun c8 => ?_)
                  ·
                    have c8 := b2_0.mp c8
                    exact x_thr C hR hT xwS (List.mem_of_getElem? (i := 10) rfl) ⟨⟨Nat.le_of_ble_eq_true rfl, Nat.le_of_ble_eq_true rfl⟩, Nat.le_of_ble_eq_true rfl, Nat.le_of_ble_eq_true rfl⟩ ⟨Nat.le_of_ble_eq_true rfl, Nat.le_of_ble_eq_true rfl⟩ dX3_plan_110 dX3_plan_113 dX3_plan_114 dX3_plan_116 dX3_plan_119 ⟨3, List.mem_of_getElem? (i := 2) rfl, by simp [cK8, inN, hn, hcl, c1, c2, c3, c4, c5, c6, c7, c8]⟩
                  ·
                    have c8 := b2_1.mp c8
                    refine g_aload_n (pc' := 96) C dX3_plan_95 rfl rfl ?_
                    refine f_X3_35 (pc' := 99) C dX3_plan_96 (by first | assumption | exact rfl | exact al13 rfl | exact Nat.le_of_ble_eq_true rfl) rfl ?_
                    refine g_aload_n (pc' := 100) C dX3_plan_99 rfl rfl ?_
                    refine f_X3_27 (pc' := 103) C dX3_plan_100 (by first | assumption | exact rfl | exact al13 rfl | exact Nat.le_of_ble_eq_true rfl) rfl ?_
                    refine g_alen (pc' := 104) (v := 24) (t0 := 3) C dX3_plan_103 (by first | assumption | exact rfl | exact al13 rfl | exact Nat.le_of_ble_eq_true rfl) rfl rfl rfl rfl ?_
                    refine k_X3_66 (pc' := 107) C (m_X3_isIn) dX3_plan_104 ⟨⟨Nat.le_of_ble_eq_true rfl, Nat.le_of_ble_eq_true rfl⟩, rfl, rfl⟩ (Nat.le_of_ble_eq_true rfl) ⟨Nat.zero_le _, Nat.zero_le _⟩ rfl ?_
                    refine g_if_ne (tgt := 120) (pc' := 110) C dX3_plan_107 (by decide) rfl (fun c9 => ?_) (fun c9 => ?_)
                    ·
                      have c9 := b2_1.mp c9
                      refine g_aload_n (pc' := 121) C dX3_plan_120 rfl rfl ?_
                      refine g_null (pc' := 122) C dX3_plan_121 rfl ?_
                      refine g_aload (pc' := 124) C dX3_plan_122 rfl rfl ?_
                      refine g_iload_n (pc' := 125) C dX3_plan_124 rfl rfl ?_
                      refine g_iload_n (pc' := 126) C dX3_plan_125 rfl rfl ?_
                      refine g_iload (pc' := 128) C dX3_plan_126 rfl rfl ?_
                      refine g_iload (pc' := 130) C dX3_plan_128 rfl rfl ?_
                      refine k_X3_135 (pc' := 133) C (m_X3_clashReasonN X hm2) dX3_plan_130 (by first | assumption | exact rfl | exact al13 rfl | exact Nat.le_of_ble_eq_true rfl) ⟨⟨Nat.le_of_ble_eq_true rfl, Nat.le_of_ble_eq_true rfl⟩, rfl, rfl⟩ (Nat.le_of_ble_eq_true rfl) ⟨Nat.zero_le _, Nat.zero_le _⟩ rfl ?_
                      refine g_if_eq (tgt := 146) (pc' := 136) C dX3_plan_133 (by decide) rfl (fun c10 => ?_) (fun c10 => ?_)
                      ·
                        have hnn : inn (I 0 0 5) 24 = true := by assumption
                        have hN : z.2 < 24 := by
                          have h1 := X.2.2.2.1
                          have h24 := X.2.1
                          refine Classical.byContradiction fun q => ?_
                          have : z.2 = 24 := by omega
                          rw [h1, this] at hnn
                          exact absurd hnn (by decide)
                        have hy1 : ¬ y < 1 := by assumption
                        have hy4 : y ≤ 4 := by assumption
                        obtain ⟨d, -, hd4, hyd⟩ := inR_lo (y := y) (lo := 1) (hi := 4) (by decide) (by decide) (by rw [inR_pos]; exact fun q => q.elim hy1 (fun q => absurd hy4 (Int32.not_le.mpr q)))
                        have hk0 : cK8 I P z.1 z.2 x r w a y = 0 := by simp [cK8, inN, hn, hcl, c1, c2, c3, c4, c5, c6, c7, c8, c9, c10]
                        refine x_newH C hR hRF hj (fun b c hb hc => ?_)
                        have hAl : ∀ k i, wAl (z.1, z.2 + 1) k i → Ka K ((gUp (gUp (Kg K) 3 z.2 b) 11 z.2 c).2.2 k i) := fun k i hw => by
                          rcases wAl_H hw with hw | ⟨rfl, rfl⟩ | ⟨rfl, rfl⟩
                          · rw [gUp_H hw]; exact Cx.al C hw
                          · rw [show (gUp (gUp (Kg K) 3 z.2 b) 11 z.2 c).2.2 3 z.2 = b from by show (if 3 = 11 ∧ z.2 = z.2 then c else if 3 = 3 ∧ z.2 = z.2 then b else (Kg K).2.2 3 z.2) = b; simp]; exact Rq.sz hR hb
                          · rw [show (gUp (gUp (Kg K) 3 z.2 b) 11 z.2 c).2.2 11 z.2 = c from if_pos ⟨rfl, rfl⟩]; exact Rq.sz hR hc
                        have e05 : rowI (rowI I 3 z.2 (fH (I 0 0 5) y)) 11 z.2 (fun _ => 0) 0 0 5 = I 0 0 5 := by rw [rowI_off (by omega), rowI_off (by omega)]
                        have hX1 : XI (z.1, z.2 + 1) (upI (rowI (rowI I 3 z.2 (fH (I 0 0 5) y)) 11 z.2 (fun _ => 0)) 0 0 5 (I 0 0 5 + 1)) (upP (upP P 3 z.2 1 (some j)) 7 0 z.2 (some z.2)) := X.pl hN hj hyd hd4
                        refine l_X3_plan (K := Kw K (gUp (gUp (Kg K) 3 z.2 b) 11 z.2 c)) (I := rowI (rowI I 3 z.2 (fH (I 0 0 5) y)) 11 z.2 (fun _ => 0)) (P := upP P 3 z.2 1 (some j)) (j := j) (x := x) (r := r) (w := w) (a := a) (y := y) (C.up rfl rfl hAl) (hR.up (gUp (gUp (Kg K) 3 z.2 b) 11 z.2 c)) (by rw [e05]; exact X.2.2.2.1) hN (by rw [e05]; exact hX1) ⟨hk0, ?_, ⟨b, c, hb, hc, rfl⟩, rfl, ?_, ?_, rfl⟩
                        · rw [rowI_off (by omega), rowI_at]; show some (Value.int (I 0 0 5)) = _; rw [X.2.2.2.1]
                        · unfold cO8 cB8 cP8; rw [e05, hcl]
                        · unfold cO8 cB8 cP8; rw [e05, hcl]
                      ·
                        exact x_thr C hR hT xwS (List.mem_of_getElem? (i := 11) rfl) ⟨⟨Nat.le_of_ble_eq_true rfl, Nat.le_of_ble_eq_true rfl⟩, Nat.le_of_ble_eq_true rfl, Nat.le_of_ble_eq_true rfl⟩ ⟨Nat.le_of_ble_eq_true rfl, Nat.le_of_ble_eq_true rfl⟩ dX3_plan_136 dX3_plan_139 dX3_plan_140 dX3_plan_142 dX3_plan_145 ⟨3, List.mem_of_getElem? (i := 2) rfl, by simp [cK8, inN, hn, hcl, c1, c2, c3, c4, c5, c6, c7, c8, c9, c10]⟩
                    ·
                      have c9 := b2_0.mp c9
                      exact x_thr C hR hT xwS (List.mem_of_getElem? (i := 10) rfl) ⟨⟨Nat.le_of_ble_eq_true rfl, Nat.le_of_ble_eq_true rfl⟩, Nat.le_of_ble_eq_true rfl, Nat.le_of_ble_eq_true rfl⟩ ⟨Nat.le_of_ble_eq_true rfl, Nat.le_of_ble_eq_true rfl⟩ dX3_plan_110 dX3_plan_113 dX3_plan_114 dX3_plan_116 dX3_plan_119 ⟨3, List.mem_of_getElem? (i := 2) rfl, by simp [cK8, inN, hn, hcl, c1, c2, c3, c4, c5, c6, c7, c8, c9]⟩
              ·
                exact x_thr C hR hT xwA (List.mem_of_getElem? (i := 9) rfl) ⟨⟨Nat.le_of_ble_eq_true rfl, Nat.le_of_ble_eq_true rfl⟩, Nat.le_of_ble_eq_true rfl, Nat.le_of_ble_eq_true rfl⟩ ⟨Nat.le_of_ble_eq_true rfl, Nat.le_of_ble_eq_true rfl⟩ dX3_plan_67 dX3_plan_70 dX3_plan_71 dX3_plan_73 dX3_plan_76 ⟨2, List.mem_of_getElem? (i := 1) rfl, by simp [cK8, inN, hn, hcl, c1, c2, c3, c4, c5, c6]⟩
      ·
        have c2 := b2_0.mp c2
        exact x_thr C hR hT xwI (List.mem_of_getElem? (i := 8) rfl) ⟨⟨Nat.le_of_ble_eq_true rfl, Nat.le_of_ble_eq_true rfl⟩, Nat.le_of_ble_eq_true rfl, Nat.le_of_ble_eq_true rfl⟩ ⟨Nat.le_of_ble_eq_true rfl, Nat.le_of_ble_eq_true rfl⟩ dX3_plan_28 dX3_plan_31 dX3_plan_32 dX3_plan_34 dX3_plan_37 ⟨1, List.mem_of_getElem? (i := 0) rfl, by simp [cK8, inN, hn, hcl, c1, c2]⟩
  · have hn : oM x z.1 = true := oM_T hx
    refine k_X3_95 (pc' := 5) C (m_X3_matterAtN X hx) dX3_plan_2 (by first | assumption | exact rfl | exact al13 rfl | exact Nat.le_of_ble_eq_true rfl) ⟨⟨Nat.le_of_ble_eq_true rfl, Nat.le_of_ble_eq_true rfl⟩, rfl, rfl⟩ (Nat.le_of_ble_eq_true rfl) ⟨Nat.zero_le _, Nat.zero_le _⟩ rfl ?_
    refine g_astoreN (pc' := 7) C dX3_plan_5 rfl rfl ?_
    refine g_aloadN (pc' := 9) C dX3_plan_7 rfl rfl ?_
    refine g_ifnullN (tgt := 28) C dX3_plan_9 (by decide) ?_
    exact x_thr C hR hT xwI (List.mem_of_getElem? (i := 8) rfl) ⟨⟨Nat.le_of_ble_eq_true rfl, Nat.le_of_ble_eq_true rfl⟩, Nat.le_of_ble_eq_true rfl, Nat.le_of_ble_eq_true rfl⟩ ⟨Nat.le_of_ble_eq_true rfl, Nat.le_of_ble_eq_true rfl⟩ dX3_plan_28 dX3_plan_31 dX3_plan_32 dX3_plan_34 dX3_plan_37 ⟨1, List.mem_of_getElem? (i := 0) rfl, by simp [cK8, inN, hn]⟩
end WNews
