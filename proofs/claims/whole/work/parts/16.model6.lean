section WModel6
def mPL (M N : Nat) : Nat → wI × Int32 → wI × Int32
  | 0, s => s
  | n + 1, s => mPL M N n ((mEn M N s.1).1, s.2 + (mEn M N s.1).2)
def mK12 (now x : Int32) : Int32 := if inR x 1 50 = true then (if ¬ now + x ≤ 1000 then 2 else 0) else 1
def mO12 (I : wI) (M N : Nat) (x : Int32) : wI × Int32 := if mK12 (I 12 0 1) x = 0 then mPL M N x.toNatClampNeg (th I 0, 0) else (th I (mK12 (I 12 0 1) x), 0)
theorem eAL_off {k j c : Nat} (h : k ≠ 13) : ∀ (n m : Nat) (I : wI), eAL n m I k j c = I k j c
  | 0, _, _ => rfl
  | n + 1, m, I => (eAL_off h n (m + 1) _).trans (by unfold eAS; rw [upI_at, if_neg (by omega)])
theorem eBS_off {k j c : Nat} (h : k ≠ 13) (m : Nat) (s : wI × Int32) : (eBS m s).1 k j c = s.1 k j c := by
  unfold eBS
  split
  · split
    · dsimp only; rw [upI_at, if_neg (by omega), upI_at, if_neg (by omega)]
    · dsimp only; rw [upI_at, if_neg (by omega), upI_at, if_neg (by omega)]
  · rfl
theorem eBL_off {k j c : Nat} (h : k ≠ 13) : ∀ (n m : Nat) (s : wI × Int32), (eBL n m s).1 k j c = s.1 k j c
  | 0, _, _ => rfl
  | n + 1, m, s => (eBL_off h n (m + 1) _).trans (eBS_off h m s)
theorem eCL_off {k j c : Nat} (h : k ≠ 13) : ∀ (n m : Nat) (I : wI), eCL n m I k j c = I k j c
  | 0, _, _ => rfl
  | n + 1, m, I => (eCL_off h n (m + 1) _).trans (by unfold eCS; rw [upI_at, if_neg (by omega)])
theorem mEn_off {M N : Nat} {I : wI} {k j c : Nat} (h : k ≠ 13) (h2 : ¬ (k = 12 ∧ j = 0 ∧ c = 1)) : (mEn M N I).1 k j c = I k j c := by
  unfold mEn
  dsimp only
  rw [eCL_off h, eBL_off h]
  show eN (eAL M 0 I) k j c = _
  unfold eN
  rw [upI_at, if_neg h2, eAL_off h]
def mIts (I : wI) (what who : Int32) (h : Nat) : Bool := if what = 0 then decide (I 13 16 h = who) else if what = 1 then decide (I 13 7 (mm I h) = who) else if what = 2 then decide (I 13 8 (mm I h) = who ∨ I 13 9 (mm I h) = who) else decide (I 13 17 h = who)
def mAS (I : wI) (what who hr : Int32) (h : Nat) (x : Int32) : Int32 := if mIts I what who h = true ∧ I 13 14 h = 0 ∧ mt4 (I 13 18 h) (I 13 19 h) hr 1 = true then nI h else x
def mAL (I : wI) (what who hr : Int32) : Nat → Nat → Int32 → Int32
  | 0, _, x => x
  | n + 1, h, x => mAL I what who hr n (h + 1) (mAS I what who hr h x)
def mK14 (x y w : Int32) : Int32 := if inR x 0 3 = true then (if inR y 0 (if x = 2 then 5 else 3) = true ∧ inR w 0 1003 = true then 0 else 2) else 1
def mO14 (I : wI) (N : Nat) (x y w : Int32) : wI × Int32 := if mK14 x y w = 0 then (th I 0, mAL (th I 0) x y w N 0 (-1)) else (th I (mK14 x y w), 0)
set_option maxRecDepth 20000 in
theorem l_X4_pass {K : wK} {z : wZ} {P : wP} {O : wO} {post : Option Value → wI → wP → Prop} {M N mk : Nat} {x : Int32} (C : Cx K cX4_pass RX4 4 ((some .int)) { frames := 2, cells := 0, slots := 0, locals := 44 } z) (hR : Rx K z O post) (hx : x = nI mk) (hmk : mk ≤ 50) : ∀ (n k : Nat) (x2 x3 : Int32) (I : wI), MI M N I → I 12 0 0 = 0 → x3 = nI k → k + n = mk → post (some (.int (mPL M N n (I, x2)).2)) (mPL M N n (I, x2)).1 P → G K z I P O 0 0 39 [(0, .ref ((Kg K).2.2 12 0)), (1, .int x), (2, .int x2), (3, .int x3)] [] := by
  intro n
  induction n with
  | zero =>
    intro k x2 x3 I X hth ex3 hk hpost
    refine g_iload_n (pc' := 40) C dX4_pass_39 rfl rfl ?_
    refine g_iload_n (pc' := 41) C dX4_pass_40 rfl rfl ?_
    refine g_icmp_ge (tgt := 64) (pc' := 44) C dX4_pass_41 (by decide) rfl (fun c1 => ?_) (fun c1 => absurd (by rw [ex3, show k = mk by omega, hx]; exact Int32.le_refl _) c1)
    refine g_iload_n (pc' := 65) C dX4_pass_64 rfl rfl ?_
    exact g_iret C hR dX4_pass_65 hpost
  | succ n ih =>
    intro k x2 x3 I X hth ex3 hk hpost
    refine g_iload_n (pc' := 40) C dX4_pass_39 rfl rfl ?_
    refine g_iload_n (pc' := 41) C dX4_pass_40 rfl rfl ?_
    refine g_icmp_ge (tgt := 64) (pc' := 44) C dX4_pass_41 (by decide) rfl (fun c1 => absurd c1 (by rw [ex3, hx]; exact nI_ge (by omega) (by omega))) (fun c1 => ?_)
    refine g_aload_n (pc' := 45) C dX4_pass_44 rfl rfl ?_
    refine f_X4_71 (pc' := 48) C dX4_pass_45 (by first | assumption | exact rfl | exact al13 rfl | exact Nat.le_of_ble_eq_true rfl) rfl ?_
    refine g_if_ne (tgt := 64) (pc' := 51) C dX4_pass_48 (by decide) rfl (fun c2 => absurd hth c2) (fun c2 => ?_)
    refine g_iload_n (pc' := 52) C dX4_pass_51 rfl rfl ?_
    refine g_aload_n (pc' := 53) C dX4_pass_52 rfl rfl ?_
    refine k_X4_124 (pc' := 56) C (m_X4_ends X) dX4_pass_53 (by first | assumption | exact rfl | exact al13 rfl | exact Nat.le_of_ble_eq_true rfl) ⟨⟨Nat.le_of_ble_eq_true rfl, Nat.le_of_ble_eq_true rfl⟩, rfl, rfl⟩ (Nat.le_of_ble_eq_true rfl) ⟨Nat.zero_le _, Nat.zero_le _⟩ rfl ?_
    refine g_iadd (pc' := 57) C dX4_pass_56 rfl ?_
    refine g_istore_n (pc' := 58) C dX4_pass_57 rfl rfl ?_
    refine g_iinc (pc' := 61) C dX4_pass_58 rfl (ii1 _) rfl rfl ?_
    refine g_goto (tgt := 39) C dX4_pass_61 (by decide) ?_
    exact G_pick [0, 1, 2, 3] rfl (ih (k + 1) _ _ _ X.en (by rw [mEn_off (by decide) (by decide)]; exact hth) (by rw [ex3]; exact nI_1 k) (by omega) hpost)
set_option maxRecDepth 20000 in
theorem m_X4_pass {l : Launch} {g : wG} {z : wZ} {I : wI} {P : wP} {O : wO} {M N : Nat} {x : Int32} (X : MI M N I) : RT l yX4_pass cX4_pass 4 ((some .int)) { frames := 2, cells := 0, slots := 0, locals := 44 } g z [.ref (g.2.2 12 0), .int x] I P O (dp (some (.int (mO12 I M N x).2)) ((mO12 I M N x).1) (P)) := by
  refine RT.of (own := RX4) rfl (by decide +kernel) (Nat.le_of_ble_eq_true rfl) rfl (fun K C hl hg hR => ?_)
  subst hl
  subst hg
  refine g_aload_n (pc' := 1) C dX4_pass_0 rfl rfl ?_
  refine g_iload_n (pc' := 2) C dX4_pass_1 rfl rfl ?_
  refine g_iconst (v := 1) (pc' := 3) C dX4_pass_2 (by decide) rfl ?_
  refine g_bipush (v := 50) (pc' := 5) C dX4_pass_3 (by decide) rfl ?_
  refine k_X4_78 (pc' := 8) C (m_X4_in) dX4_pass_5 ⟨⟨Nat.le_of_ble_eq_true rfl, Nat.le_of_ble_eq_true rfl⟩, rfl, rfl⟩ (Nat.le_of_ble_eq_true rfl) ⟨Nat.zero_le _, Nat.zero_le _⟩ rfl ?_
  refine g_if_ne (tgt := 15) (pc' := 11) C dX4_pass_8 (by decide) rfl (fun c1 => ?_) (fun c1 => ?_)
  ·
    have c1 := b2_1.mp c1
    refine g_aload_n (pc' := 16) C dX4_pass_15 rfl rfl ?_
    refine f_X4_85 (pc' := 19) C dX4_pass_16 (by first | assumption | exact rfl | exact al13 rfl | exact Nat.le_of_ble_eq_true rfl) rfl ?_
    refine g_iload_n (pc' := 20) C dX4_pass_19 rfl rfl ?_
    refine g_iadd (pc' := 21) C dX4_pass_20 rfl ?_
    refine g_sipush (v := 1000) (pc' := 24) C dX4_pass_21 (by decide) rfl ?_
    refine g_icmp_le (tgt := 31) (pc' := 27) C dX4_pass_24 (by decide) rfl (fun c2 => ?_) (fun c2 => ?_)
    ·
      refine g_iconst (v := 0) (pc' := 32) C dX4_pass_31 (by decide) rfl ?_
      refine p_X4_71 (pc' := 35) C dX4_pass_32 (by first | assumption | exact rfl | exact al13 rfl | exact Nat.le_of_ble_eq_true rfl) rfl ?_
      refine g_iconst (v := 0) (pc' := 36) C dX4_pass_35 (by decide) rfl ?_
      refine g_istore_n (pc' := 37) C dX4_pass_36 rfl rfl ?_
      refine g_iconst (v := 0) (pc' := 38) C dX4_pass_37 (by decide) rfl ?_
      refine g_istore_n (pc' := 39) C dX4_pass_38 rfl rfl ?_
      obtain ⟨k, hk1, hk50, hxk⟩ := inR_lo (y := x) (lo := 1) (hi := 50) (by decide) (by decide) (by assumption)
      have hcl : x.toNatClampNeg = k := by rw [hxk]; exact nI_clamp (by omega)
      refine l_X4_pass C hR hxk hk50 k 0 0 0 _ (X.up _ (by omega)) (by rw [upI_at]; simp) nI_0.symm (by omega) ⟨?_, ?_, rfl⟩ <;> simp [mO12, mK12, th, hcl, c1, c2]
    ·
      refine g_iconst (v := 2) (pc' := 28) C dX4_pass_27 (by decide) rfl ?_
      refine g_goto (tgt := 32) C dX4_pass_28 (by decide) ?_
      refine p_X4_71 (pc' := 35) C dX4_pass_32 (by first | assumption | exact rfl | exact al13 rfl | exact Nat.le_of_ble_eq_true rfl) rfl ?_
      refine g_iconst (v := 0) (pc' := 36) C dX4_pass_35 (by decide) rfl ?_
      refine g_istore_n (pc' := 37) C dX4_pass_36 rfl rfl ?_
      refine g_iconst (v := 0) (pc' := 38) C dX4_pass_37 (by decide) rfl ?_
      refine g_istore_n (pc' := 39) C dX4_pass_38 rfl rfl ?_
      refine g_iload_n (pc' := 40) C dX4_pass_39 rfl rfl ?_
      refine g_iload_n (pc' := 41) C dX4_pass_40 rfl rfl ?_
      refine g_icmp_ge (tgt := 64) (pc' := 44) C dX4_pass_41 (by decide) rfl (fun c3 => ?_) (fun c3 => ?_)
      ·
        refine g_iload_n (pc' := 65) C dX4_pass_64 rfl rfl ?_
        exact g_iret C hR dX4_pass_65 ⟨by simp [mO12, mK12, th, c1, c2, c3], by simp [mO12, mK12, th, c1, c2, c3], rfl⟩
      ·
        refine g_aload_n (pc' := 45) C dX4_pass_44 rfl rfl ?_
        refine f_X4_71 (pc' := 48) C dX4_pass_45 (by first | assumption | exact rfl | exact al13 rfl | exact Nat.le_of_ble_eq_true rfl) rfl ?_
        refine g_if_ne (tgt := 64) (pc' := 51) C dX4_pass_48 (by decide) rfl (fun c4 => ?_) (fun c4 => absurd c4 (by first | decide | rw [thv]; decide))
        refine g_iload_n (pc' := 65) C dX4_pass_64 rfl rfl ?_
        exact g_iret C hR dX4_pass_65 ⟨by simp [mO12, mK12, th, c1, c2, c3, c4], by simp [mO12, mK12, th, c1, c2, c3, c4], rfl⟩
  ·
    have c1 := b2_0.mp c1
    refine g_iconst (v := 1) (pc' := 12) C dX4_pass_11 (by decide) rfl ?_
    refine g_goto (tgt := 32) C dX4_pass_12 (by decide) ?_
    refine p_X4_71 (pc' := 35) C dX4_pass_32 (by first | assumption | exact rfl | exact al13 rfl | exact Nat.le_of_ble_eq_true rfl) rfl ?_
    refine g_iconst (v := 0) (pc' := 36) C dX4_pass_35 (by decide) rfl ?_
    refine g_istore_n (pc' := 37) C dX4_pass_36 rfl rfl ?_
    refine g_iconst (v := 0) (pc' := 38) C dX4_pass_37 (by decide) rfl ?_
    refine g_istore_n (pc' := 39) C dX4_pass_38 rfl rfl ?_
    refine g_iload_n (pc' := 40) C dX4_pass_39 rfl rfl ?_
    refine g_iload_n (pc' := 41) C dX4_pass_40 rfl rfl ?_
    refine g_icmp_ge (tgt := 64) (pc' := 44) C dX4_pass_41 (by decide) rfl (fun c5 => ?_) (fun c5 => ?_)
    ·
      refine g_iload_n (pc' := 65) C dX4_pass_64 rfl rfl ?_
      exact g_iret C hR dX4_pass_65 ⟨by simp [mO12, mK12, th, c1, c5], by simp [mO12, mK12, th, c1, c5], rfl⟩
    ·
      refine g_aload_n (pc' := 45) C dX4_pass_44 rfl rfl ?_
      refine f_X4_71 (pc' := 48) C dX4_pass_45 (by first | assumption | exact rfl | exact al13 rfl | exact Nat.le_of_ble_eq_true rfl) rfl ?_
      refine g_if_ne (tgt := 64) (pc' := 51) C dX4_pass_48 (by decide) rfl (fun c6 => ?_) (fun c6 => absurd c6 (by first | decide | rw [thv]; decide))
      refine g_iload_n (pc' := 65) C dX4_pass_64 rfl rfl ?_
      exact g_iret C hR dX4_pass_65 ⟨by simp [mO12, mK12, th, c1, c5, c6], by simp [mO12, mK12, th, c1, c5, c6], rfl⟩
set_option maxRecDepth 20000 in
theorem l_X4_at {K : wK} {z : wZ} {P : wP} {O : wO} {post : Option Value → wI → wP → Prop} {I : wI} {M N : Nat} {what who hr : Int32} (C : Cx K cX4_at RX4 8 ((some .int)) { frames := 1, cells := 0, slots := 0, locals := 23 } z) (hR : Rx K z O post) (X : MI M N I) (hth : I 12 0 0 = 0) : ∀ (n h : Nat) (x4 x5 : Int32), x5 = nI h → h + n = N → post (some (.int (mAL I what who hr n h x4))) I P → G K z I P O 0 0 57 [(0, .ref ((Kg K).2.2 12 0)), (1, .int what), (2, .int who), (3, .int hr), (4, .int x4), (5, .int x5)] [] := by
  intro n
  induction n with
  | zero =>
    intro h x4 x5 ex5 hk hpost
    have hN := X.2.1
    refine g_iload (pc' := 59) C dX4_at_57 rfl rfl ?_
    refine g_aload_n (pc' := 60) C dX4_at_59 rfl rfl ?_
    refine f_X4_82 (pc' := 63) C dX4_at_60 (by first | assumption | exact rfl | exact al13 rfl | exact Nat.le_of_ble_eq_true rfl) rfl ?_
    refine g_icmp_ge (tgt := 234) (pc' := 66) C dX4_at_63 (by decide) rfl (fun c1 => ?_) (fun c1 => absurd (by rw [ex5, X.2.2.2.1, show h = N by omega]; exact Int32.le_refl _) c1)
    refine g_aload_n (pc' := 235) C dX4_at_234 rfl rfl ?_
    refine f_X4_71 (pc' := 238) C dX4_at_235 (by first | assumption | exact rfl | exact al13 rfl | exact Nat.le_of_ble_eq_true rfl) rfl ?_
    refine g_if_le (tgt := 245) (pc' := 241) C dX4_at_238 (by decide) rfl (fun c2 => ?_) (fun c2 => absurd (by rw [hth]; decide) c2)
    refine g_iload (pc' := 247) C dX4_at_245 rfl rfl ?_
    exact g_iret C hR dX4_at_247 hpost
  | succ n ih =>
    intro h x4 x5 ex5 hk hpost
    have hN := X.2.1
    have hh : h < N := by omega
    have h24 : h < 24 := by omega
    have J : ∀ v : Int32, v = b2 (mIts I what who h) → G K z I P O 0 0 180 [(0, .ref ((Kg K).2.2 12 0)), (1, .int what), (2, .int who), (3, .int hr), (4, .int x4), (5, .int x5), (6, .int (I 13 15 h))] [.int v] := by
      intro v hv
      subst hv
      refine g_istore (pc' := 182) C dX4_at_180 rfl rfl ?_
      refine g_iload (pc' := 184) C dX4_at_182 rfl rfl ?_
      refine g_if_eq (tgt := 224) (pc' := 187) C dX4_at_184 (by decide) rfl (fun c1 => ?_) (fun c1 => ?_)
      ·
        have c1 := b2_0.mp c1
        refine g_iload (pc' := 226) C dX4_at_224 rfl rfl ?_
        refine g_istore (pc' := 228) C dX4_at_226 rfl rfl ?_
        refine g_iinc (pc' := 231) C dX4_at_228 rfl (ii1 _) rfl rfl ?_
        refine g_goto (tgt := 57) C dX4_at_231 (by decide) ?_
        refine G_pick [0, 1, 2, 3, 4, 5] rfl (ih (h + 1) _ _ (by rw [ex5]; exact nI_1 h) (by omega) ?_)
        simpa [mAL, mAS, ex5, c1] using hpost
      ·
        have c1 := b2_1.mp c1
        refine g_aload_n (pc' := 188) C dX4_at_187 rfl rfl ?_
        refine f_X4_41 (pc' := 191) C dX4_at_188 (by first | assumption | exact rfl | exact al13 rfl | exact Nat.le_of_ble_eq_true rfl) rfl ?_
        refine g_iload (pc' := 193) C dX4_at_191 rfl rfl ?_
        refine g_iald (pc' := 194) C (h) ex5 h24 dX4_at_193 (by first | assumption | exact rfl | exact al13 rfl | exact Nat.le_of_ble_eq_true rfl) rfl rfl rfl ?_
        refine g_if_ne (tgt := 224) (pc' := 197) C dX4_at_194 (by decide) rfl (fun c2 => ?_) (fun c2 => ?_)
        ·
          refine g_iload (pc' := 226) C dX4_at_224 rfl rfl ?_
          refine g_istore (pc' := 228) C dX4_at_226 rfl rfl ?_
          refine g_iinc (pc' := 231) C dX4_at_228 rfl (ii1 _) rfl rfl ?_
          refine g_goto (tgt := 57) C dX4_at_231 (by decide) ?_
          refine G_pick [0, 1, 2, 3, 4, 5] rfl (ih (h + 1) _ _ (by rw [ex5]; exact nI_1 h) (by omega) ?_)
          simpa [mAL, mAS, ex5, c1, c2] using hpost
        ·
          refine g_aload_n (pc' := 198) C dX4_at_197 rfl rfl ?_
          refine f_X4_53 (pc' := 201) C dX4_at_198 (by first | assumption | exact rfl | exact al13 rfl | exact Nat.le_of_ble_eq_true rfl) rfl ?_
          refine g_iload (pc' := 203) C dX4_at_201 rfl rfl ?_
          refine g_iald (pc' := 204) C (h) ex5 h24 dX4_at_203 (by first | assumption | exact rfl | exact al13 rfl | exact Nat.le_of_ble_eq_true rfl) rfl rfl rfl ?_
          refine g_aload_n (pc' := 205) C dX4_at_204 rfl rfl ?_
          refine f_X4_56 (pc' := 208) C dX4_at_205 (by first | assumption | exact rfl | exact al13 rfl | exact Nat.le_of_ble_eq_true rfl) rfl ?_
          refine g_iload (pc' := 210) C dX4_at_208 rfl rfl ?_
          refine g_iald (pc' := 211) C (h) ex5 h24 dX4_at_210 (by first | assumption | exact rfl | exact al13 rfl | exact Nat.le_of_ble_eq_true rfl) rfl rfl rfl ?_
          refine g_iload_n (pc' := 212) C dX4_at_211 rfl rfl ?_
          refine g_iconst (v := 1) (pc' := 213) C dX4_at_212 (by decide) rfl ?_
          refine k_X4_96 (pc' := 216) C (m_X4_meets) dX4_at_213 ⟨⟨Nat.le_of_ble_eq_true rfl, Nat.le_of_ble_eq_true rfl⟩, rfl, rfl⟩ (Nat.le_of_ble_eq_true rfl) ⟨Nat.zero_le _, Nat.zero_le _⟩ rfl ?_
          refine g_if_eq (tgt := 224) (pc' := 219) C dX4_at_216 (by decide) rfl (fun c3 => ?_) (fun c3 => ?_)
          ·
            have c3 := b2_0.mp c3
            refine g_iload (pc' := 226) C dX4_at_224 rfl rfl ?_
            refine g_istore (pc' := 228) C dX4_at_226 rfl rfl ?_
            refine g_iinc (pc' := 231) C dX4_at_228 rfl (ii1 _) rfl rfl ?_
            refine g_goto (tgt := 57) C dX4_at_231 (by decide) ?_
            refine G_pick [0, 1, 2, 3, 4, 5] rfl (ih (h + 1) _ _ (by rw [ex5]; exact nI_1 h) (by omega) ?_)
            simpa [mAL, mAS, ex5, c1, c2, c3] using hpost
          ·
            have c3 := b2_1.mp c3
            refine g_iload (pc' := 221) C dX4_at_219 rfl rfl ?_
            refine g_goto (tgt := 226) C dX4_at_221 (by decide) ?_
            refine g_istore (pc' := 228) C dX4_at_226 rfl rfl ?_
            refine g_iinc (pc' := 231) C dX4_at_228 rfl (ii1 _) rfl rfl ?_
            refine g_goto (tgt := 57) C dX4_at_231 (by decide) ?_
            refine G_pick [0, 1, 2, 3, 4, 5] rfl (ih (h + 1) _ _ (by rw [ex5]; exact nI_1 h) (by omega) ?_)
            simpa [mAL, mAS, ex5, c1, c2, c3] using hpost
    refine g_iload (pc' := 59) C dX4_at_57 rfl rfl ?_
    refine g_aload_n (pc' := 60) C dX4_at_59 rfl rfl ?_
    refine f_X4_82 (pc' := 63) C dX4_at_60 (by first | assumption | exact rfl | exact al13 rfl | exact Nat.le_of_ble_eq_true rfl) rfl ?_
    refine g_icmp_ge (tgt := 234) (pc' := 66) C dX4_at_63 (by decide) rfl (fun c1 => absurd c1 (by rw [ex5, X.2.2.2.1]; exact nI_ge hh (by omega))) (fun c1 => ?_)
    refine g_aload_n (pc' := 67) C dX4_at_66 rfl rfl ?_
    refine f_X4_71 (pc' := 70) C dX4_at_67 (by first | assumption | exact rfl | exact al13 rfl | exact Nat.le_of_ble_eq_true rfl) rfl ?_
    refine g_if_ne (tgt := 234) (pc' := 73) C dX4_at_70 (by decide) rfl (fun c2 => absurd hth c2) (fun c2 => ?_)
    refine g_aload_n (pc' := 74) C dX4_at_73 rfl rfl ?_
    refine f_X4_44 (pc' := 77) C dX4_at_74 (by first | assumption | exact rfl | exact al13 rfl | exact Nat.le_of_ble_eq_true rfl) rfl ?_
    refine g_iload (pc' := 79) C dX4_at_77 rfl rfl ?_
    refine g_iald (pc' := 80) C (h) ex5 h24 dX4_at_79 (by first | assumption | exact rfl | exact al13 rfl | exact Nat.le_of_ble_eq_true rfl) rfl rfl rfl ?_
    refine g_istore (pc' := 82) C dX4_at_80 rfl rfl ?_
    refine g_iload_n (pc' := 83) C dX4_at_82 rfl rfl ?_
    refine g_if_ne (tgt := 105) (pc' := 86) C dX4_at_83 (by decide) rfl (fun c3 => ?_) (fun c3 => ?_)
    ·
      refine g_iload_n (pc' := 106) C dX4_at_105 rfl rfl ?_
      refine g_iconst (v := 1) (pc' := 107) C dX4_at_106 (by decide) rfl ?_
      refine g_icmp_ne (tgt := 129) (pc' := 110) C dX4_at_107 (by decide) rfl (fun c4 => ?_) (fun c4 => ?_)
      ·
        refine g_iload_n (pc' := 130) C dX4_at_129 rfl rfl ?_
        refine g_iconst (v := 2) (pc' := 131) C dX4_at_130 (by decide) rfl ?_
        refine g_icmp_ne (tgt := 164) (pc' := 134) C dX4_at_131 (by decide) rfl (fun c5 => ?_) (fun c5 => ?_)
        ·
          refine g_aload_n (pc' := 165) C dX4_at_164 rfl rfl ?_
          refine f_X4_50 (pc' := 168) C dX4_at_165 (by first | assumption | exact rfl | exact al13 rfl | exact Nat.le_of_ble_eq_true rfl) rfl ?_
          refine g_iload (pc' := 170) C dX4_at_168 rfl rfl ?_
          refine g_iald (pc' := 171) C (h) ex5 h24 dX4_at_170 (by first | assumption | exact rfl | exact al13 rfl | exact Nat.le_of_ble_eq_true rfl) rfl rfl rfl ?_
          refine g_iload_n (pc' := 172) C dX4_at_171 rfl rfl ?_
          refine g_icmp_ne (tgt := 179) (pc' := 175) C dX4_at_172 (by decide) rfl (fun c6 => ?_) (fun c6 => ?_)
          ·
            refine g_iconst (v := 0) (pc' := 180) C dX4_at_179 (by decide) rfl ?_
            exact J _ (by simp [mIts, b2, c1, c2, c3, c4, c5, c6])
          ·
            refine g_iconst (v := 1) (pc' := 176) C dX4_at_175 (by decide) rfl ?_
            refine g_goto (tgt := 180) C dX4_at_176 (by decide) ?_
            exact J _ (by simp [mIts, b2, c1, c2, c3, c4, c5, c6])
        ·
          refine g_aload_n (pc' := 135) C dX4_at_134 rfl rfl ?_
          refine f_X4_26 (pc' := 138) C dX4_at_135 (by first | assumption | exact rfl | exact al13 rfl | exact Nat.le_of_ble_eq_true rfl) rfl ?_
          refine g_iload (pc' := 140) C dX4_at_138 rfl rfl ?_
          refine g_iald (pc' := 141) C (mm I h) (X.mt hh) (X.mt2 hh) dX4_at_140 (by first | assumption | exact rfl | exact al13 rfl | exact Nat.le_of_ble_eq_true rfl) rfl rfl rfl ?_
          refine g_iload_n (pc' := 142) C dX4_at_141 rfl rfl ?_
          refine g_icmp_eq (tgt := 156) (pc' := 145) C dX4_at_142 (by decide) rfl (fun c7 => ?_) (fun c7 => ?_)
          ·
            refine g_iconst (v := 1) (pc' := 157) C dX4_at_156 (by decide) rfl ?_
            refine g_goto (tgt := 180) C dX4_at_157 (by decide) ?_
            exact J _ (by simp [mIts, b2, c1, c2, c3, c4, c5, c7])
          ·
            refine g_aload_n (pc' := 146) C dX4_at_145 rfl rfl ?_
            refine f_X4_29 (pc' := 149) C dX4_at_146 (by first | assumption | exact rfl | exact al13 rfl | exact Nat.le_of_ble_eq_true rfl) rfl ?_
            refine g_iload (pc' := 151) C dX4_at_149 rfl rfl ?_
            refine g_iald (pc' := 152) C (mm I h) (X.mt hh) (X.mt2 hh) dX4_at_151 (by first | assumption | exact rfl | exact al13 rfl | exact Nat.le_of_ble_eq_true rfl) rfl rfl rfl ?_
            refine g_iload_n (pc' := 153) C dX4_at_152 rfl rfl ?_
            refine g_icmp_ne (tgt := 160) (pc' := 156) C dX4_at_153 (by decide) rfl (fun c8 => ?_) (fun c8 => ?_)
            ·
              refine g_iconst (v := 0) (pc' := 161) C dX4_at_160 (by decide) rfl ?_
              refine g_goto (tgt := 180) C dX4_at_161 (by decide) ?_
              exact J _ (by simp [mIts, b2, c1, c2, c3, c4, c5, c7, c8])
            ·
              refine g_iconst (v := 1) (pc' := 157) C dX4_at_156 (by decide) rfl ?_
              refine g_goto (tgt := 180) C dX4_at_157 (by decide) ?_
              exact J _ (by simp [mIts, b2, c1, c2, c3, c4, c5, c7, c8])
      ·
        refine g_aload_n (pc' := 111) C dX4_at_110 rfl rfl ?_
        refine f_X4_23 (pc' := 114) C dX4_at_111 (by first | assumption | exact rfl | exact al13 rfl | exact Nat.le_of_ble_eq_true rfl) rfl ?_
        refine g_iload (pc' := 116) C dX4_at_114 rfl rfl ?_
        refine g_iald (pc' := 117) C (mm I h) (X.mt hh) (X.mt2 hh) dX4_at_116 (by first | assumption | exact rfl | exact al13 rfl | exact Nat.le_of_ble_eq_true rfl) rfl rfl rfl ?_
        refine g_iload_n (pc' := 118) C dX4_at_117 rfl rfl ?_
        refine g_icmp_ne (tgt := 125) (pc' := 121) C dX4_at_118 (by decide) rfl (fun c9 => ?_) (fun c9 => ?_)
        ·
          refine g_iconst (v := 0) (pc' := 126) C dX4_at_125 (by decide) rfl ?_
          refine g_goto (tgt := 180) C dX4_at_126 (by decide) ?_
          exact J _ (by simp [mIts, b2, c1, c2, c3, c4, c9])
        ·
          refine g_iconst (v := 1) (pc' := 122) C dX4_at_121 (by decide) rfl ?_
          refine g_goto (tgt := 180) C dX4_at_122 (by decide) ?_
          exact J _ (by simp [mIts, b2, c1, c2, c3, c4, c9])
    ·
      refine g_aload_n (pc' := 87) C dX4_at_86 rfl rfl ?_
      refine f_X4_47 (pc' := 90) C dX4_at_87 (by first | assumption | exact rfl | exact al13 rfl | exact Nat.le_of_ble_eq_true rfl) rfl ?_
      refine g_iload (pc' := 92) C dX4_at_90 rfl rfl ?_
      refine g_iald (pc' := 93) C (h) ex5 h24 dX4_at_92 (by first | assumption | exact rfl | exact al13 rfl | exact Nat.le_of_ble_eq_true rfl) rfl rfl rfl ?_
      refine g_iload_n (pc' := 94) C dX4_at_93 rfl rfl ?_
      refine g_icmp_ne (tgt := 101) (pc' := 97) C dX4_at_94 (by decide) rfl (fun c10 => ?_) (fun c10 => ?_)
      ·
        refine g_iconst (v := 0) (pc' := 102) C dX4_at_101 (by decide) rfl ?_
        refine g_goto (tgt := 180) C dX4_at_102 (by decide) ?_
        exact J _ (by simp [mIts, b2, c1, c2, c3, c10])
      ·
        refine g_iconst (v := 1) (pc' := 98) C dX4_at_97 (by decide) rfl ?_
        refine g_goto (tgt := 180) C dX4_at_98 (by decide) ?_
        exact J _ (by simp [mIts, b2, c1, c2, c3, c10])
set_option maxRecDepth 20000 in
theorem m_X4_at {l : Launch} {g : wG} {z : wZ} {I : wI} {P : wP} {O : wO} {M N : Nat} {x y w : Int32} (X : MI M N I) : RT l yX4_at cX4_at 8 ((some .int)) { frames := 1, cells := 0, slots := 0, locals := 23 } g z [.ref (g.2.2 12 0), .int x, .int y, .int w] I P O (dp (some (.int (mO14 I N x y w).2)) ((mO14 I N x y w).1) (P)) := by
  refine RT.of (own := RX4) rfl (by decide +kernel) (Nat.le_of_ble_eq_true rfl) rfl (fun K C hl hg hR => ?_)
  subst hl
  subst hg
  refine g_aload_n (pc' := 1) C dX4_at_0 rfl rfl ?_
  refine g_iload_n (pc' := 2) C dX4_at_1 rfl rfl ?_
  refine g_iconst (v := 0) (pc' := 3) C dX4_at_2 (by decide) rfl ?_
  refine g_iconst (v := 3) (pc' := 4) C dX4_at_3 (by decide) rfl ?_
  refine k_X4_78 (pc' := 7) C (m_X4_in) dX4_at_4 ⟨⟨Nat.le_of_ble_eq_true rfl, Nat.le_of_ble_eq_true rfl⟩, rfl, rfl⟩ (Nat.le_of_ble_eq_true rfl) ⟨Nat.zero_le _, Nat.zero_le _⟩ rfl ?_
  refine g_if_ne (tgt := 14) (pc' := 10) C dX4_at_7 (by decide) rfl (fun c1 => ?_) (fun c1 => ?_)
  ·
    have c1 := b2_1.mp c1
    refine g_iload_n (pc' := 15) C dX4_at_14 rfl rfl ?_
    refine g_iconst (v := 0) (pc' := 16) C dX4_at_15 (by decide) rfl ?_
    refine g_iload_n (pc' := 17) C dX4_at_16 rfl rfl ?_
    refine g_iconst (v := 2) (pc' := 18) C dX4_at_17 (by decide) rfl ?_
    refine g_icmp_ne (tgt := 25) (pc' := 21) C dX4_at_18 (by decide) rfl (fun c2 => ?_) (fun c2 => ?_)
    ·
      refine g_iconst (v := 3) (pc' := 26) C dX4_at_25 (by decide) rfl ?_
      refine k_X4_78 (pc' := 29) C (m_X4_in) dX4_at_26 ⟨⟨Nat.le_of_ble_eq_true rfl, Nat.le_of_ble_eq_true rfl⟩, rfl, rfl⟩ (Nat.le_of_ble_eq_true rfl) ⟨Nat.zero_le _, Nat.zero_le _⟩ rfl ?_
      refine g_if_eq (tgt := 43) (pc' := 32) C dX4_at_29 (by decide) rfl (fun c3 => ?_) (fun c3 => ?_)
      ·
        have c3 := b2_0.mp c3
        refine g_iconst (v := 2) (pc' := 44) C dX4_at_43 (by decide) rfl ?_
        refine g_goto (tgt := 48) C dX4_at_44 (by decide) ?_
        refine p_X4_71 (pc' := 51) C dX4_at_48 (by first | assumption | exact rfl | exact al13 rfl | exact Nat.le_of_ble_eq_true rfl) rfl ?_
        refine g_iconst (v := (-1)) (pc' := 52) C dX4_at_51 (by decide) rfl ?_
        refine g_istore (pc' := 54) C dX4_at_52 rfl rfl ?_
        refine g_iconst (v := 0) (pc' := 55) C dX4_at_54 (by decide) rfl ?_
        refine g_istore (pc' := 57) C dX4_at_55 rfl rfl ?_
        refine g_iload (pc' := 59) C dX4_at_57 rfl rfl ?_
        refine g_aload_n (pc' := 60) C dX4_at_59 rfl rfl ?_
        refine f_X4_82 (pc' := 63) C dX4_at_60 (by first | assumption | exact rfl | exact al13 rfl | exact Nat.le_of_ble_eq_true rfl) rfl ?_
        refine g_icmp_ge (tgt := 234) (pc' := 66) C dX4_at_63 (by decide) rfl (fun c4 => ?_) (fun c4 => ?_)
        ·
          refine g_aload_n (pc' := 235) C dX4_at_234 rfl rfl ?_
          refine f_X4_71 (pc' := 238) C dX4_at_235 (by first | assumption | exact rfl | exact al13 rfl | exact Nat.le_of_ble_eq_true rfl) rfl ?_
          refine g_if_le (tgt := 245) (pc' := 241) C dX4_at_238 (by decide) rfl (fun c5 => absurd c5 (by first | decide | rw [thv]; decide)) (fun c5 => ?_)
          refine g_iconst (v := 0) (pc' := 242) C dX4_at_241 (by decide) rfl ?_
          refine g_goto (tgt := 247) C dX4_at_242 (by decide) ?_
          exact g_iret C hR dX4_at_247 ⟨by simp [mO14, mK14, th, c1, c2, c3, c4, c5], by simp [mO14, mK14, th, c1, c2, c3, c4, c5], rfl⟩
        ·
          refine g_aload_n (pc' := 67) C dX4_at_66 rfl rfl ?_
          refine f_X4_71 (pc' := 70) C dX4_at_67 (by first | assumption | exact rfl | exact al13 rfl | exact Nat.le_of_ble_eq_true rfl) rfl ?_
          refine g_if_ne (tgt := 234) (pc' := 73) C dX4_at_70 (by decide) rfl (fun c6 => ?_) (fun c6 => absurd c6 (by first | decide | rw [thv]; decide))
          refine g_aload_n (pc' := 235) C dX4_at_234 rfl rfl ?_
          refine f_X4_71 (pc' := 238) C dX4_at_235 (by first | assumption | exact rfl | exact al13 rfl | exact Nat.le_of_ble_eq_true rfl) rfl ?_
          refine g_if_le (tgt := 245) (pc' := 241) C dX4_at_238 (by decide) rfl (fun c7 => absurd c7 (by first | decide | rw [thv]; decide)) (fun c7 => ?_)
          refine g_iconst (v := 0) (pc' := 242) C dX4_at_241 (by decide) rfl ?_
          refine g_goto (tgt := 247) C dX4_at_242 (by decide) ?_
          exact g_iret C hR dX4_at_247 ⟨by simp [mO14, mK14, th, c1, c2, c3, c4, c6, c7], by simp [mO14, mK14, th, c1, c2, c3, c4, c6, c7], rfl⟩
      ·
        have c3 := b2_1.mp c3
        refine g_iload_n (pc' := 33) C dX4_at_32 rfl rfl ?_
        refine g_iconst (v := 0) (pc' := 34) C dX4_at_33 (by decide) rfl ?_
        refine g_sipush (v := 1003) (pc' := 37) C dX4_at_34 (by decide) rfl ?_
        refine k_X4_78 (pc' := 40) C (m_X4_in) dX4_at_37 ⟨⟨Nat.le_of_ble_eq_true rfl, Nat.le_of_ble_eq_true rfl⟩, rfl, rfl⟩ (Nat.le_of_ble_eq_true rfl) ⟨Nat.zero_le _, Nat.zero_le _⟩ rfl ?_
        refine g_if_ne (tgt := 47) (pc' := 43) C dX4_at_40 (by decide) rfl (fun c8 => ?_) (fun c8 => ?_)
        ·
          have c8 := b2_1.mp c8
          refine g_iconst (v := 0) (pc' := 48) C dX4_at_47 (by decide) rfl ?_
          refine p_X4_71 (pc' := 51) C dX4_at_48 (by first | assumption | exact rfl | exact al13 rfl | exact Nat.le_of_ble_eq_true rfl) rfl ?_
          refine g_iconst (v := (-1)) (pc' := 52) C dX4_at_51 (by decide) rfl ?_
          refine g_istore (pc' := 54) C dX4_at_52 rfl rfl ?_
          refine g_iconst (v := 0) (pc' := 55) C dX4_at_54 (by decide) rfl ?_
          refine g_istore (pc' := 57) C dX4_at_55 rfl rfl ?_
          refine l_X4_at C hR X.th (by unfold th; rw [upI_at]; simp) N 0 _ 0 nI_0.symm (by omega) ⟨?_, ?_, rfl⟩ <;> simp [mO14, mK14, c1, c2, c3, c8]
        ·
          have c8 := b2_0.mp c8
          refine g_iconst (v := 2) (pc' := 44) C dX4_at_43 (by decide) rfl ?_
          refine g_goto (tgt := 48) C dX4_at_44 (by decide) ?_
          refine p_X4_71 (pc' := 51) C dX4_at_48 (by first | assumption | exact rfl | exact al13 rfl | exact Nat.le_of_ble_eq_true rfl) rfl ?_
          refine g_iconst (v := (-1)) (pc' := 52) C dX4_at_51 (by decide) rfl ?_
          refine g_istore (pc' := 54) C dX4_at_52 rfl rfl ?_
          refine g_iconst (v := 0) (pc' := 55) C dX4_at_54 (by decide) rfl ?_
          refine g_istore (pc' := 57) C dX4_at_55 rfl rfl ?_
          refine g_iload (pc' := 59) C dX4_at_57 rfl rfl ?_
          refine g_aload_n (pc' := 60) C dX4_at_59 rfl rfl ?_
          refine f_X4_82 (pc' := 63) C dX4_at_60 (by first | assumption | exact rfl | exact al13 rfl | exact Nat.le_of_ble_eq_true rfl) rfl ?_
          refine g_icmp_ge (tgt := 234) (pc' := 66) C dX4_at_63 (by decide) rfl (fun c9 => ?_) (fun c9 => ?_)
          ·
            refine g_aload_n (pc' := 235) C dX4_at_234 rfl rfl ?_
            refine f_X4_71 (pc' := 238) C dX4_at_235 (by first | assumption | exact rfl | exact al13 rfl | exact Nat.le_of_ble_eq_true rfl) rfl ?_
            refine g_if_le (tgt := 245) (pc' := 241) C dX4_at_238 (by decide) rfl (fun c10 => absurd c10 (by first | decide | rw [thv]; decide)) (fun c10 => ?_)
            refine g_iconst (v := 0) (pc' := 242) C dX4_at_241 (by decide) rfl ?_
            refine g_goto (tgt := 247) C dX4_at_242 (by decide) ?_
            exact g_iret C hR dX4_at_247 ⟨by simp [mO14, mK14, th, c1, c2, c3, c8, c9, c10], by simp [mO14, mK14, th, c1, c2, c3, c8, c9, c10], rfl⟩
          ·
            refine g_aload_n (pc' := 67) C dX4_at_66 rfl rfl ?_
            refine f_X4_71 (pc' := 70) C dX4_at_67 (by first | assumption | exact rfl | exact al13 rfl | exact Nat.le_of_ble_eq_true rfl) rfl ?_
            refine g_if_ne (tgt := 234) (pc' := 73) C dX4_at_70 (by decide) rfl (fun c11 => ?_) (fun c11 => absurd c11 (by first | decide | rw [thv]; decide))
            refine g_aload_n (pc' := 235) C dX4_at_234 rfl rfl ?_
            refine f_X4_71 (pc' := 238) C dX4_at_235 (by first | assumption | exact rfl | exact al13 rfl | exact Nat.le_of_ble_eq_true rfl) rfl ?_
            refine g_if_le (tgt := 245) (pc' := 241) C dX4_at_238 (by decide) rfl (fun c12 => absurd c12 (by first | decide | rw [thv]; decide)) (fun c12 => ?_)
            refine g_iconst (v := 0) (pc' := 242) C dX4_at_241 (by decide) rfl ?_
            refine g_goto (tgt := 247) C dX4_at_242 (by decide) ?_
            exact g_iret C hR dX4_at_247 ⟨by simp [mO14, mK14, th, c1, c2, c3, c8, c9, c11, c12], by simp [mO14, mK14, th, c1, c2, c3, c8, c9, c11, c12], rfl⟩
    ·
      subst c2
      refine g_iconst (v := 5) (pc' := 22) C dX4_at_21 (by decide) rfl ?_
      refine g_goto (tgt := 26) C dX4_at_22 (by decide) ?_
      refine k_X4_78 (pc' := 29) C (m_X4_in) dX4_at_26 ⟨⟨Nat.le_of_ble_eq_true rfl, Nat.le_of_ble_eq_true rfl⟩, rfl, rfl⟩ (Nat.le_of_ble_eq_true rfl) ⟨Nat.zero_le _, Nat.zero_le _⟩ rfl ?_
      refine g_if_eq (tgt := 43) (pc' := 32) C dX4_at_29 (by decide) rfl (fun c13 => ?_) (fun c13 => ?_)
      ·
        have c13 := b2_0.mp c13
        refine g_iconst (v := 2) (pc' := 44) C dX4_at_43 (by decide) rfl ?_
        refine g_goto (tgt := 48) C dX4_at_44 (by decide) ?_
        refine p_X4_71 (pc' := 51) C dX4_at_48 (by first | assumption | exact rfl | exact al13 rfl | exact Nat.le_of_ble_eq_true rfl) rfl ?_
        refine g_iconst (v := (-1)) (pc' := 52) C dX4_at_51 (by decide) rfl ?_
        refine g_istore (pc' := 54) C dX4_at_52 rfl rfl ?_
        refine g_iconst (v := 0) (pc' := 55) C dX4_at_54 (by decide) rfl ?_
        refine g_istore (pc' := 57) C dX4_at_55 rfl rfl ?_
        refine g_iload (pc' := 59) C dX4_at_57 rfl rfl ?_
        refine g_aload_n (pc' := 60) C dX4_at_59 rfl rfl ?_
        refine f_X4_82 (pc' := 63) C dX4_at_60 (by first | assumption | exact rfl | exact al13 rfl | exact Nat.le_of_ble_eq_true rfl) rfl ?_
        refine g_icmp_ge (tgt := 234) (pc' := 66) C dX4_at_63 (by decide) rfl (fun c14 => ?_) (fun c14 => ?_)
        ·
          refine g_aload_n (pc' := 235) C dX4_at_234 rfl rfl ?_
          refine f_X4_71 (pc' := 238) C dX4_at_235 (by first | assumption | exact rfl | exact al13 rfl | exact Nat.le_of_ble_eq_true rfl) rfl ?_
          refine g_if_le (tgt := 245) (pc' := 241) C dX4_at_238 (by decide) rfl (fun c15 => absurd c15 (by first | decide | rw [thv]; decide)) (fun c15 => ?_)
          refine g_iconst (v := 0) (pc' := 242) C dX4_at_241 (by decide) rfl ?_
          refine g_goto (tgt := 247) C dX4_at_242 (by decide) ?_
          exact g_iret C hR dX4_at_247 ⟨by simp [mO14, mK14, th, c1, c13, c14, c15], by simp [mO14, mK14, th, c1, c13, c14, c15], rfl⟩
        ·
          refine g_aload_n (pc' := 67) C dX4_at_66 rfl rfl ?_
          refine f_X4_71 (pc' := 70) C dX4_at_67 (by first | assumption | exact rfl | exact al13 rfl | exact Nat.le_of_ble_eq_true rfl) rfl ?_
          refine g_if_ne (tgt := 234) (pc' := 73) C dX4_at_70 (by decide) rfl (fun c16 => ?_) (fun c16 => absurd c16 (by first | decide | rw [thv]; decide))
          refine g_aload_n (pc' := 235) C dX4_at_234 rfl rfl ?_
          refine f_X4_71 (pc' := 238) C dX4_at_235 (by first | assumption | exact rfl | exact al13 rfl | exact Nat.le_of_ble_eq_true rfl) rfl ?_
          refine g_if_le (tgt := 245) (pc' := 241) C dX4_at_238 (by decide) rfl (fun c17 => absurd c17 (by first | decide | rw [thv]; decide)) (fun c17 => ?_)
          refine g_iconst (v := 0) (pc' := 242) C dX4_at_241 (by decide) rfl ?_
          refine g_goto (tgt := 247) C dX4_at_242 (by decide) ?_
          exact g_iret C hR dX4_at_247 ⟨by simp [mO14, mK14, th, c1, c13, c14, c16, c17], by simp [mO14, mK14, th, c1, c13, c14, c16, c17], rfl⟩
      ·
        have c13 := b2_1.mp c13
        refine g_iload_n (pc' := 33) C dX4_at_32 rfl rfl ?_
        refine g_iconst (v := 0) (pc' := 34) C dX4_at_33 (by decide) rfl ?_
        refine g_sipush (v := 1003) (pc' := 37) C dX4_at_34 (by decide) rfl ?_
        refine k_X4_78 (pc' := 40) C (m_X4_in) dX4_at_37 ⟨⟨Nat.le_of_ble_eq_true rfl, Nat.le_of_ble_eq_true rfl⟩, rfl, rfl⟩ (Nat.le_of_ble_eq_true rfl) ⟨Nat.zero_le _, Nat.zero_le _⟩ rfl ?_
        refine g_if_ne (tgt := 47) (pc' := 43) C dX4_at_40 (by decide) rfl (fun c18 => ?_) (fun c18 => ?_)
        ·
          have c18 := b2_1.mp c18
          refine g_iconst (v := 0) (pc' := 48) C dX4_at_47 (by decide) rfl ?_
          refine p_X4_71 (pc' := 51) C dX4_at_48 (by first | assumption | exact rfl | exact al13 rfl | exact Nat.le_of_ble_eq_true rfl) rfl ?_
          refine g_iconst (v := (-1)) (pc' := 52) C dX4_at_51 (by decide) rfl ?_
          refine g_istore (pc' := 54) C dX4_at_52 rfl rfl ?_
          refine g_iconst (v := 0) (pc' := 55) C dX4_at_54 (by decide) rfl ?_
          refine g_istore (pc' := 57) C dX4_at_55 rfl rfl ?_
          refine l_X4_at C hR X.th (by unfold th; rw [upI_at]; simp) N 0 _ 0 nI_0.symm (by omega) ⟨?_, ?_, rfl⟩ <;> simp [mO14, mK14, c1, c13, c18]
        ·
          have c18 := b2_0.mp c18
          refine g_iconst (v := 2) (pc' := 44) C dX4_at_43 (by decide) rfl ?_
          refine g_goto (tgt := 48) C dX4_at_44 (by decide) ?_
          refine p_X4_71 (pc' := 51) C dX4_at_48 (by first | assumption | exact rfl | exact al13 rfl | exact Nat.le_of_ble_eq_true rfl) rfl ?_
          refine g_iconst (v := (-1)) (pc' := 52) C dX4_at_51 (by decide) rfl ?_
          refine g_istore (pc' := 54) C dX4_at_52 rfl rfl ?_
          refine g_iconst (v := 0) (pc' := 55) C dX4_at_54 (by decide) rfl ?_
          refine g_istore (pc' := 57) C dX4_at_55 rfl rfl ?_
          refine g_iload (pc' := 59) C dX4_at_57 rfl rfl ?_
          refine g_aload_n (pc' := 60) C dX4_at_59 rfl rfl ?_
          refine f_X4_82 (pc' := 63) C dX4_at_60 (by first | assumption | exact rfl | exact al13 rfl | exact Nat.le_of_ble_eq_true rfl) rfl ?_
          refine g_icmp_ge (tgt := 234) (pc' := 66) C dX4_at_63 (by decide) rfl (fun c19 => ?_) (fun c19 => ?_)
          ·
            refine g_aload_n (pc' := 235) C dX4_at_234 rfl rfl ?_
            refine f_X4_71 (pc' := 238) C dX4_at_235 (by first | assumption | exact rfl | exact al13 rfl | exact Nat.le_of_ble_eq_true rfl) rfl ?_
            refine g_if_le (tgt := 245) (pc' := 241) C dX4_at_238 (by decide) rfl (fun c20 => absurd c20 (by first | decide | rw [thv]; decide)) (fun c20 => ?_)
            refine g_iconst (v := 0) (pc' := 242) C dX4_at_241 (by decide) rfl ?_
            refine g_goto (tgt := 247) C dX4_at_242 (by decide) ?_
            exact g_iret C hR dX4_at_247 ⟨by simp [mO14, mK14, th, c1, c13, c18, c19, c20], by simp [mO14, mK14, th, c1, c13, c18, c19, c20], rfl⟩
          ·
            refine g_aload_n (pc' := 67) C dX4_at_66 rfl rfl ?_
            refine f_X4_71 (pc' := 70) C dX4_at_67 (by first | assumption | exact rfl | exact al13 rfl | exact Nat.le_of_ble_eq_true rfl) rfl ?_
            refine g_if_ne (tgt := 234) (pc' := 73) C dX4_at_70 (by decide) rfl (fun c21 => ?_) (fun c21 => absurd c21 (by first | decide | rw [thv]; decide))
            refine g_aload_n (pc' := 235) C dX4_at_234 rfl rfl ?_
            refine f_X4_71 (pc' := 238) C dX4_at_235 (by first | assumption | exact rfl | exact al13 rfl | exact Nat.le_of_ble_eq_true rfl) rfl ?_
            refine g_if_le (tgt := 245) (pc' := 241) C dX4_at_238 (by decide) rfl (fun c22 => absurd c22 (by first | decide | rw [thv]; decide)) (fun c22 => ?_)
            refine g_iconst (v := 0) (pc' := 242) C dX4_at_241 (by decide) rfl ?_
            refine g_goto (tgt := 247) C dX4_at_242 (by decide) ?_
            exact g_iret C hR dX4_at_247 ⟨by simp [mO14, mK14, th, c1, c13, c18, c19, c21, c22], by simp [mO14, mK14, th, c1, c13, c18, c19, c21, c22], rfl⟩
  ·
    have c1 := b2_0.mp c1
    refine g_iconst (v := 1) (pc' := 11) C dX4_at_10 (by decide) rfl ?_
    refine g_goto (tgt := 48) C dX4_at_11 (by decide) ?_
    refine p_X4_71 (pc' := 51) C dX4_at_48 (by first | assumption | exact rfl | exact al13 rfl | exact Nat.le_of_ble_eq_true rfl) rfl ?_
    refine g_iconst (v := (-1)) (pc' := 52) C dX4_at_51 (by decide) rfl ?_
    refine g_istore (pc' := 54) C dX4_at_52 rfl rfl ?_
    refine g_iconst (v := 0) (pc' := 55) C dX4_at_54 (by decide) rfl ?_
    refine g_istore (pc' := 57) C dX4_at_55 rfl rfl ?_
    refine g_iload (pc' := 59) C dX4_at_57 rfl rfl ?_
    refine g_aload_n (pc' := 60) C dX4_at_59 rfl rfl ?_
    refine f_X4_82 (pc' := 63) C dX4_at_60 (by first | assumption | exact rfl | exact al13 rfl | exact Nat.le_of_ble_eq_true rfl) rfl ?_
    refine g_icmp_ge (tgt := 234) (pc' := 66) C dX4_at_63 (by decide) rfl (fun c23 => ?_) (fun c23 => ?_)
    ·
      refine g_aload_n (pc' := 235) C dX4_at_234 rfl rfl ?_
      refine f_X4_71 (pc' := 238) C dX4_at_235 (by first | assumption | exact rfl | exact al13 rfl | exact Nat.le_of_ble_eq_true rfl) rfl ?_
      refine g_if_le (tgt := 245) (pc' := 241) C dX4_at_238 (by decide) rfl (fun c24 => absurd c24 (by first | decide | rw [thv]; decide)) (fun c24 => ?_)
      refine g_iconst (v := 0) (pc' := 242) C dX4_at_241 (by decide) rfl ?_
      refine g_goto (tgt := 247) C dX4_at_242 (by decide) ?_
      exact g_iret C hR dX4_at_247 ⟨by simp [mO14, mK14, th, c1, c23, c24], by simp [mO14, mK14, th, c1, c23, c24], rfl⟩
    ·
      refine g_aload_n (pc' := 67) C dX4_at_66 rfl rfl ?_
      refine f_X4_71 (pc' := 70) C dX4_at_67 (by first | assumption | exact rfl | exact al13 rfl | exact Nat.le_of_ble_eq_true rfl) rfl ?_
      refine g_if_ne (tgt := 234) (pc' := 73) C dX4_at_70 (by decide) rfl (fun c25 => ?_) (fun c25 => absurd c25 (by first | decide | rw [thv]; decide))
      refine g_aload_n (pc' := 235) C dX4_at_234 rfl rfl ?_
      refine f_X4_71 (pc' := 238) C dX4_at_235 (by first | assumption | exact rfl | exact al13 rfl | exact Nat.le_of_ble_eq_true rfl) rfl ?_
      refine g_if_le (tgt := 245) (pc' := 241) C dX4_at_238 (by decide) rfl (fun c26 => absurd c26 (by first | decide | rw [thv]; decide)) (fun c26 => ?_)
      refine g_iconst (v := 0) (pc' := 242) C dX4_at_241 (by decide) rfl ?_
      refine g_goto (tgt := 247) C dX4_at_242 (by decide) ?_
      exact g_iret C hR dX4_at_247 ⟨by simp [mO14, mK14, th, c1, c23, c25, c26], by simp [mO14, mK14, th, c1, c23, c25, c26], rfl⟩
end WModel6
