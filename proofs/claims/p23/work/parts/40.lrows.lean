section WLrows
variable {K : wK} {cc : ByteArray} {own : String} {nL : Nat} {ret : Option FieldType} {rm : Room} {z : wZ} {I : wI} {P : wP} {O : wO} {c n pc pc' : Nat} {L : List (Nat × Value)} {S : List Value}
theorem iiN (a : Nat) : nI a + Int32.ofInt 1 = nI (a + 1) := by rw [show Int32.ofInt 1 = 1 from by decide, nI_1]
theorem g_irem (C : Cx K cc own nL ret rm z) {x y : Int32} (d : decode cc pc = .ok (.irem, 1)) (hy : ¬ y = 0) (hp : pc + 1 = pc') (kk : G K z I P O c n pc' L (.int (x - x / y * y) :: S)) : G K z I P O c n pc L (.int y :: .int x :: S) := by
  subst hp
  obtain ⟨p, l, e, R, s, m, args, below, meth, cd, Q, g, A⟩ := K
  intro H locs ls hH hS hl hc
  exact lv_irem C.1 C.2.1 d hy (kk H locs ls hH hS hl hc)
theorem g_ldc (C : Cx K cc own nL ret rm z) {index : Nat} {v : Int32} (hw : Cond.constant own index v ∈ wAll) (d : decode cc pc = .ok (.ldc index, 2)) (hp : pc + 2 = pc') (kk : G K z I P O c n pc' L (.int v :: S)) : G K z I P O c n pc L S := by
  subst hp
  obtain ⟨p, l, e, R, s, m, args, below, meth, cd, Q, g, A⟩ := K
  intro H locs ls hH hS hl hc
  exact lv_ldc C.1 C.2.1 C.2.2.2.2.1 (C.2.2.2.2.2.1 _ hw) d (kk H locs ls hH hS hl hc)
theorem g_iaddN (C : Cx K cc own nL ret rm z) {a b : Nat} (d : decode cc pc = .ok (.iadd, 1)) (hp : pc + 1 = pc') (kk : G K z I P O c n pc' L (.int (nI (a + b)) :: S)) : G K z I P O c n pc L (.int (nI b) :: .int (nI a) :: S) := g_iadd C d hp (by rw [nI_add]; exact kk)
theorem g_imulN (C : Cx K cc own nL ret rm z) {a b : Nat} (d : decode cc pc = .ok (.imul, 1)) (hp : pc + 1 = pc') (kk : G K z I P O c n pc' L (.int (nI (a * b)) :: S)) : G K z I P O c n pc L (.int (nI b) :: .int (nI a) :: S) := g_imul C d hp (by rw [pk_mul]; exact kk)
theorem g_isubN (C : Cx K cc own nL ret rm z) {a b r : Nat} (hr : b + r = a) (d : decode cc pc = .ok (.isub, 1)) (hp : pc + 1 = pc') (kk : G K z I P O c n pc' L (.int (nI r) :: S)) : G K z I P O c n pc L (.int (nI b) :: .int (nI a) :: S) := g_isub C d hp (by rw [pk_sub (by omega), show a - b = r by omega]; exact kk)
theorem g_iremN (C : Cx K cc own nL ret rm z) {a b r : Nat} (ha : a < 2 ^ 31) (hb : 0 < b ∧ b < 2 ^ 31) (hr : a % b = r) (d : decode cc pc = .ok (.irem, 1)) (hp : pc + 1 = pc') (kk : G K z I P O c n pc' L (.int (nI r) :: S)) : G K z I P O c n pc L (.int (nI b) :: .int (nI a) :: S) := g_irem C d (nI_ne0 hb.1 hb.2) hp (by rw [pk_rem ha hb.1 hb.2, hr]; exact kk)
theorem g_idivN (C : Cx K cc own nL ret rm z) {a b r : Nat} (ha : a < 2 ^ 31) (hb : 0 < b ∧ b < 2 ^ 31) (hr : a / b = r) (d : decode cc pc = .ok (.idiv, 1)) (hp : pc + 1 = pc') (kk : G K z I P O c n pc' L (.int (nI r) :: S)) : G K z I P O c n pc L (.int (nI b) :: .int (nI a) :: S) := g_idiv C d (nI_ne0 hb.1 hb.2) hp (by rw [pk_div ha hb.1 hb.2, hr]; exact kk)

theorem g_icmp_eqN (C : Cx K cc own nL ret rm z) {a b : Nat} {off : Int} {tgt : Nat} (ha : a < 2 ^ 31) (hb : b < 2 ^ 31) (d : decode cc pc = .ok (.if_icmp .eq off, 3)) (ht : (pc : Int) + off = (tgt : Int)) (hp : pc + 3 = pc') (kt : a = b → G K z I P O c n tgt L S) (kf : ¬ a = b → G K z I P O c n pc' L S) : G K z I P O c n pc L (.int (nI b) :: .int (nI a) :: S) := g_icmp_eq C d ht hp (fun h => kt ((nI_eq ha hb).mp h)) (fun h => kf (fun e => h ((nI_eq ha hb).mpr e)))
theorem g_icmp_neN (C : Cx K cc own nL ret rm z) {a b : Nat} {off : Int} {tgt : Nat} (ha : a < 2 ^ 31) (hb : b < 2 ^ 31) (d : decode cc pc = .ok (.if_icmp .ne off, 3)) (ht : (pc : Int) + off = (tgt : Int)) (hp : pc + 3 = pc') (kt : ¬ a = b → G K z I P O c n tgt L S) (kf : a = b → G K z I P O c n pc' L S) : G K z I P O c n pc L (.int (nI b) :: .int (nI a) :: S) := g_icmp_ne C d ht hp (fun h => kt (fun e => h ((nI_eq ha hb).mpr e))) (fun h => kf ((nI_eq ha hb).mp h))
theorem g_icmp_ltN (C : Cx K cc own nL ret rm z) {a b : Nat} {off : Int} {tgt : Nat} (ha : a < 2 ^ 31) (hb : b < 2 ^ 31) (d : decode cc pc = .ok (.if_icmp .lt off, 3)) (ht : (pc : Int) + off = (tgt : Int)) (hp : pc + 3 = pc') (kt : a < b → G K z I P O c n tgt L S) (kf : b ≤ a → G K z I P O c n pc' L S) : G K z I P O c n pc L (.int (nI b) :: .int (nI a) :: S) := g_icmp_lt C d ht hp (fun h => kt ((nI_ltI ha hb).mp h)) (fun h => kf (Nat.not_lt.mp (fun e => h ((nI_ltI ha hb).mpr e))))
theorem g_icmp_geN (C : Cx K cc own nL ret rm z) {a b : Nat} {off : Int} {tgt : Nat} (ha : a < 2 ^ 31) (hb : b < 2 ^ 31) (d : decode cc pc = .ok (.if_icmp .ge off, 3)) (ht : (pc : Int) + off = (tgt : Int)) (hp : pc + 3 = pc') (kt : b ≤ a → G K z I P O c n tgt L S) (kf : a < b → G K z I P O c n pc' L S) : G K z I P O c n pc L (.int (nI b) :: .int (nI a) :: S) := g_icmp_ge C d ht hp (fun h => kt ((nI_leI hb ha).mp h)) (fun h => kf (Nat.not_le.mp (fun e => h ((nI_leI hb ha).mpr e))))
theorem g_icmp_gtN (C : Cx K cc own nL ret rm z) {a b : Nat} {off : Int} {tgt : Nat} (ha : a < 2 ^ 31) (hb : b < 2 ^ 31) (d : decode cc pc = .ok (.if_icmp .gt off, 3)) (ht : (pc : Int) + off = (tgt : Int)) (hp : pc + 3 = pc') (kt : b < a → G K z I P O c n tgt L S) (kf : a ≤ b → G K z I P O c n pc' L S) : G K z I P O c n pc L (.int (nI b) :: .int (nI a) :: S) := g_icmp_gt C d ht hp (fun h => kt ((nI_ltI hb ha).mp h)) (fun h => kf (Nat.not_lt.mp (fun e => h ((nI_ltI hb ha).mpr e))))
theorem g_icmp_leN (C : Cx K cc own nL ret rm z) {a b : Nat} {off : Int} {tgt : Nat} (ha : a < 2 ^ 31) (hb : b < 2 ^ 31) (d : decode cc pc = .ok (.if_icmp .le off, 3)) (ht : (pc : Int) + off = (tgt : Int)) (hp : pc + 3 = pc') (kt : a ≤ b → G K z I P O c n tgt L S) (kf : b < a → G K z I P O c n pc' L S) : G K z I P O c n pc L (.int (nI b) :: .int (nI a) :: S) := g_icmp_le C d ht hp (fun h => kt ((nI_leI ha hb).mp h)) (fun h => kf (Nat.not_le.mp (fun e => h ((nI_leI ha hb).mpr e))))
def SX : wK → Nat → Nat → (Nat → Int32) → Prop
  | (p, l, e, R, s, m, args, below, meth, cd, Q, g, A), b, L, xs => va_X b L xs s s.heap ∧ b < s.heap.size ∧ ¬ A b
theorem g_sld (C : Cx K cc own nL ret rm z) {b Ln : Nat} {xs : Nat → Int32} (hX : SX K b Ln xs) {j : Int32} (t : Nat) (hj : j = nI t) (ht : t < Ln) (ht2 : Ln < 5000) (d : decode cc pc = .ok (.iaload, 1)) (hp : pc + 1 = pc') (kk : G K z I P O c n pc' L (.int (xs t) :: S)) : G K z I P O c n pc L (.int j :: .ref b :: S) := by
  subst hp
  subst hj
  obtain ⟨p, l, e, R, s, m, args, below, meth, cd, Q, g, A⟩ := K
  obtain ⟨hx, hb, -, -, hown, hts, -, hK, -, hA⟩ := C
  obtain ⟨h1, h2, h3⟩ := hX
  intro H locs ls hH hS hl hcat
  have kk := kk H locs ls hH hS hl hcat
  rw [← nI_clamp (n := t) (by omega)] at kk
  exact va_sld hx hb h1 h2 h3 hS (vp_in_nI ht (by omega)) d kk
theorem g_slen (C : Cx K cc own nL ret rm z) {b Ln : Nat} {xs : Nat → Int32} (hX : SX K b Ln xs) (d : decode cc pc = .ok (.arraylength, 1)) (hp : pc + 1 = pc') (kk : G K z I P O c n pc' L (.int (nI Ln) :: S)) : G K z I P O c n pc L (.ref b :: S) := by
  subst hp
  obtain ⟨p, l, e, R, s, m, args, below, meth, cd, Q, g, A⟩ := K
  obtain ⟨hx, hb, -, -, hown, hts, -, hK, -, hA⟩ := C
  obtain ⟨h1, h2, h3⟩ := hX
  intro H locs ls hH hS hl hcat
  exact va_slen hx hb h1 h2 h3 hS d (kk H locs ls hH hS hl hcat)
def lowN (v : Int32) (b : Nat) : Nat := v.toBitVec.toNat % 2 ^ 31 % b
theorem lowN_lt {v : Int32} {b : Nat} (h : 0 < b) : lowN v b < b := Nat.mod_lt _ h
def Oth (I I' : wI) : Prop := ∀ k, k ≠ 13 → I' k = I k
theorem Oth.rf {I : wI} : Oth I I := fun _ _ => rfl
theorem Oth.tr {I I' I'' : wI} (a : Oth I I') (b : Oth I' I'') : Oth I I'' := fun k h => (b k h).trans (a k h)
theorem Oth.up {I I' : wI} (a : Oth I I') {r k : Nat} {v : Int32} : Oth I (upI I' 13 r k v) := fun q hq => (upI_kind hq).trans (a q hq)

theorem kL_7 : Cond.constant RL 7 (51239 : Int32) ∈ wAll := wAll_i 297 (by decide +kernel) (by decide +kernel)
theorem kL_8 : Cond.constant RL 8 (2825535 : Int32) ∈ wAll := wAll_i 298 (by decide +kernel) (by decide +kernel)
theorem kL_9 : Cond.constant RL 9 (2147483647 : Int32) ∈ wAll := wAll_i 302 (by decide +kernel) (by decide +kernel)
theorem kL_43 : Cond.constant RL 43 (-100002 : Int32) ∈ wAll := wAll_i 321 (by decide +kernel) (by decide +kernel)
theorem kL_46 : Cond.constant RL 46 (-100003 : Int32) ∈ wAll := wAll_i 322 (by decide +kernel) (by decide +kernel)
end WLrows
