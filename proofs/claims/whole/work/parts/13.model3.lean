section WModel3
set_option maxRecDepth 20000 in
theorem l_X4_endsC {K : wK} {z : wZ} {P : wP} {O : wO} {post : Option Value → wI → wP → Prop} {M N : Nat} {x1 : Int32} (C : Cx K cX4_ends RX4 4 ((some .int)) { frames := 1, cells := 0, slots := 0, locals := 21 } z) (hR : Rx K z O post) : ∀ (n m : Nat) (x2 : Int32) (I : wI), MI M N I → x2 = nI m → m + n = M → post (some (.int x1)) (eCL n m I) P → G K z I P O 0 0 185 [(0, .ref ((Kg K).2.2 12 0)), (1, .int x1), (2, .int x2)] [] := by
  intro n
  induction n with
  | zero =>
    intro m x2 I X ex2 hk hpost
    have hM12 := X.1
    refine g_iload_n (pc' := 186) C dX4_ends_185 rfl rfl ?_
    refine g_aload_n (pc' := 187) C dX4_ends_186 rfl rfl ?_
    refine f_X4_75 (pc' := 190) C dX4_ends_187 (by first | assumption | exact rfl | exact al13 rfl | exact Nat.le_of_ble_eq_true rfl) rfl ?_
    refine g_icmp_ge (tgt := 236) (pc' := 193) C dX4_ends_190 (by decide) rfl (fun c1 => ?_) (fun c1 => absurd (by rw [ex2, X.2.2.1, show m = M by omega]; exact Int32.le_refl _) c1)
    refine g_iload_n (pc' := 237) C dX4_ends_236 rfl rfl ?_
    exact g_iret C hR dX4_ends_237 hpost
  | succ n ih =>
    intro m x2 I X ex2 hk hpost
    have hM12 := X.1
    have hmM : m < M := by omega
    have m12 : m < 12 := by omega
    refine g_iload_n (pc' := 186) C dX4_ends_185 rfl rfl ?_
    refine g_aload_n (pc' := 187) C dX4_ends_186 rfl rfl ?_
    refine f_X4_75 (pc' := 190) C dX4_ends_187 (by first | assumption | exact rfl | exact al13 rfl | exact Nat.le_of_ble_eq_true rfl) rfl ?_
    refine g_icmp_ge (tgt := 236) (pc' := 193) C dX4_ends_190 (by decide) rfl (fun c1 => absurd c1 (by rw [ex2, X.2.2.1]; exact nI_ge hmM (by omega))) (fun c1 => ?_)
    refine g_aload_n (pc' := 194) C dX4_ends_193 rfl rfl ?_
    refine f_X4_20 (pc' := 197) C dX4_ends_194 (by first | assumption | exact rfl | exact al13 rfl | exact Nat.le_of_ble_eq_true rfl) rfl ?_
    refine g_iload_n (pc' := 198) C dX4_ends_197 rfl rfl ?_
    refine g_aload_n (pc' := 199) C dX4_ends_198 rfl rfl ?_
    refine g_iload_n (pc' := 200) C dX4_ends_199 rfl rfl ?_
    refine k_X4_107 (pc' := 203) C (m_X4_isOpen ex2 m12) dX4_ends_200 (by first | assumption | exact rfl | exact al13 rfl | exact Nat.le_of_ble_eq_true rfl) ⟨⟨Nat.le_of_ble_eq_true rfl, Nat.le_of_ble_eq_true rfl⟩, rfl, rfl⟩ (Nat.le_of_ble_eq_true rfl) ⟨Nat.zero_le _, Nat.zero_le _⟩ rfl ?_
    refine g_if_eq (tgt := 223) (pc' := 206) C dX4_ends_203 (by decide) rfl (fun c2 => ?_) (fun c2 => ?_)
    ·
      have c2 := b2_0.mp c2
      refine g_aload_n (pc' := 224) C dX4_ends_223 rfl rfl ?_
      refine f_X4_20 (pc' := 227) C dX4_ends_224 (by first | assumption | exact rfl | exact al13 rfl | exact Nat.le_of_ble_eq_true rfl) rfl ?_
      refine g_iload_n (pc' := 228) C dX4_ends_227 rfl rfl ?_
      refine g_iald (pc' := 229) C (m) ex2 m12 dX4_ends_228 (by first | assumption | exact rfl | exact al13 rfl | exact Nat.le_of_ble_eq_true rfl) rfl rfl rfl ?_
      refine g_iast (pc' := 230) C (m) ex2 m12 dX4_ends_229 (by first | assumption | exact rfl | exact al13 rfl | exact Nat.le_of_ble_eq_true rfl) (fun _ => rfl) rfl rfl ?_
      refine g_iinc (pc' := 233) C dX4_ends_230 rfl (ii1 _) rfl rfl ?_
      refine g_goto (tgt := 185) C dX4_ends_233 (by decide) ?_
      refine G_pick [0, 1, 2] rfl (ih (m + 1) _ _ (X.up _ (by omega)) (by rw [ex2]; exact nI_1 m) (by omega) ?_)
      simpa [eCL, eCS, c1, c2] using hpost
    ·
      have c2 := b2_1.mp c2
      refine g_aload_n (pc' := 207) C dX4_ends_206 rfl rfl ?_
      refine f_X4_38 (pc' := 210) C dX4_ends_207 (by first | assumption | exact rfl | exact al13 rfl | exact Nat.le_of_ble_eq_true rfl) rfl ?_
      refine g_iload_n (pc' := 211) C dX4_ends_210 rfl rfl ?_
      refine g_iald (pc' := 212) C (m) ex2 m12 dX4_ends_211 (by first | assumption | exact rfl | exact al13 rfl | exact Nat.le_of_ble_eq_true rfl) rfl rfl rfl ?_
      refine g_aload_n (pc' := 213) C dX4_ends_212 rfl rfl ?_
      refine f_X4_85 (pc' := 216) C dX4_ends_213 (by first | assumption | exact rfl | exact al13 rfl | exact Nat.le_of_ble_eq_true rfl) rfl ?_
      refine g_icmp_gt (tgt := 223) (pc' := 219) C dX4_ends_216 (by decide) rfl (fun c3 => ?_) (fun c3 => ?_)
      ·
        refine g_aload_n (pc' := 224) C dX4_ends_223 rfl rfl ?_
        refine f_X4_20 (pc' := 227) C dX4_ends_224 (by first | assumption | exact rfl | exact al13 rfl | exact Nat.le_of_ble_eq_true rfl) rfl ?_
        refine g_iload_n (pc' := 228) C dX4_ends_227 rfl rfl ?_
        refine g_iald (pc' := 229) C (m) ex2 m12 dX4_ends_228 (by first | assumption | exact rfl | exact al13 rfl | exact Nat.le_of_ble_eq_true rfl) rfl rfl rfl ?_
        refine g_iast (pc' := 230) C (m) ex2 m12 dX4_ends_229 (by first | assumption | exact rfl | exact al13 rfl | exact Nat.le_of_ble_eq_true rfl) (fun _ => rfl) rfl rfl ?_
        refine g_iinc (pc' := 233) C dX4_ends_230 rfl (ii1 _) rfl rfl ?_
        refine g_goto (tgt := 185) C dX4_ends_233 (by decide) ?_
        refine G_pick [0, 1, 2] rfl (ih (m + 1) _ _ (X.up _ (by omega)) (by rw [ex2]; exact nI_1 m) (by omega) ?_)
        simpa [eCL, eCS, c1, c2, c3] using hpost
      ·
        refine g_iconst (v := 5) (pc' := 220) C dX4_ends_219 (by decide) rfl ?_
        refine g_goto (tgt := 229) C dX4_ends_220 (by decide) ?_
        refine g_iast (pc' := 230) C (m) ex2 m12 dX4_ends_229 (by first | assumption | exact rfl | exact al13 rfl | exact Nat.le_of_ble_eq_true rfl) (fun _ => rfl) rfl rfl ?_
        refine g_iinc (pc' := 233) C dX4_ends_230 rfl (ii1 _) rfl rfl ?_
        refine g_goto (tgt := 185) C dX4_ends_233 (by decide) ?_
        refine G_pick [0, 1, 2] rfl (ih (m + 1) _ _ (X.up _ (by omega)) (by rw [ex2]; exact nI_1 m) (by omega) ?_)
        simpa [eCL, eCS, c1, c2, c3] using hpost
set_option maxRecDepth 20000 in
theorem l_X4_endsB {K : wK} {z : wZ} {P : wP} {O : wO} {post : Option Value → wI → wP → Prop} {M N : Nat} (C : Cx K cX4_ends RX4 4 ((some .int)) { frames := 1, cells := 0, slots := 0, locals := 21 } z) (hR : Rx K z O post) : ∀ (n h : Nat) (x1 x2 : Int32) (I : wI), MI M N I → x2 = nI h → h + n = N → post (some (.int (eBL n h (I, x1)).2)) (eCL M 0 (eBL n h (I, x1)).1) P → G K z I P O 0 0 54 [(0, .ref ((Kg K).2.2 12 0)), (1, .int x1), (2, .int x2)] [] := by
  intro n
  induction n with
  | zero =>
    intro h x1 x2 I X ex2 hk hpost
    have hN := X.2.1
    refine g_iload_n (pc' := 55) C dX4_ends_54 rfl rfl ?_
    refine g_aload_n (pc' := 56) C dX4_ends_55 rfl rfl ?_
    refine f_X4_82 (pc' := 59) C dX4_ends_56 (by first | assumption | exact rfl | exact al13 rfl | exact Nat.le_of_ble_eq_true rfl) rfl ?_
    refine g_icmp_ge (tgt := 183) (pc' := 62) C dX4_ends_59 (by decide) rfl (fun c1 => ?_) (fun c1 => absurd (by rw [ex2, X.2.2.2.1, show h = N by omega]; exact Int32.le_refl _) c1)
    refine g_iconst (v := 0) (pc' := 184) C dX4_ends_183 (by decide) rfl ?_
    refine g_istore_n (pc' := 185) C dX4_ends_184 rfl rfl ?_
    exact G_pick [0, 1, 2] rfl (l_X4_endsC C hR M 0 0 _ X nI_0.symm (by omega) hpost)
  | succ n ih =>
    intro h x1 x2 I X ex2 hk hpost
    have hN := X.2.1
    have hh : h < N := by omega
    have h24 : h < 24 := by omega
    refine g_iload_n (pc' := 55) C dX4_ends_54 rfl rfl ?_
    refine g_aload_n (pc' := 56) C dX4_ends_55 rfl rfl ?_
    refine f_X4_82 (pc' := 59) C dX4_ends_56 (by first | assumption | exact rfl | exact al13 rfl | exact Nat.le_of_ble_eq_true rfl) rfl ?_
    refine g_icmp_ge (tgt := 183) (pc' := 62) C dX4_ends_59 (by decide) rfl (fun c1 => absurd c1 (by rw [ex2, X.2.2.2.1]; exact nI_ge hh (by omega))) (fun c1 => ?_)
    refine g_aload_n (pc' := 63) C dX4_ends_62 rfl rfl ?_
    refine f_X4_41 (pc' := 66) C dX4_ends_63 (by first | assumption | exact rfl | exact al13 rfl | exact Nat.le_of_ble_eq_true rfl) rfl ?_
    refine g_iload_n (pc' := 67) C dX4_ends_66 rfl rfl ?_
    refine g_iald (pc' := 68) C (h) ex2 h24 dX4_ends_67 (by first | assumption | exact rfl | exact al13 rfl | exact Nat.le_of_ble_eq_true rfl) rfl rfl rfl ?_
    refine g_if_ne (tgt := 177) (pc' := 71) C dX4_ends_68 (by decide) rfl (fun c2 => ?_) (fun c2 => ?_)
    ·
      refine g_iinc (pc' := 180) C dX4_ends_177 rfl (ii1 _) rfl rfl ?_
      refine g_goto (tgt := 54) C dX4_ends_180 (by decide) ?_
      refine G_pick [0, 1, 2] rfl (ih (h + 1) _ _ _ (by first | exact X | exact (X.up _ (by omega)).up _ (by omega)) (by rw [ex2]; exact nI_1 h) (by omega) ?_)
      simpa [eBL, eBS, eB, upI_at, c1, c2] using hpost
    ·
      refine g_aload_n (pc' := 72) C dX4_ends_71 rfl rfl ?_
      refine f_X4_53 (pc' := 75) C dX4_ends_72 (by first | assumption | exact rfl | exact al13 rfl | exact Nat.le_of_ble_eq_true rfl) rfl ?_
      refine g_iload_n (pc' := 76) C dX4_ends_75 rfl rfl ?_
      refine g_iald (pc' := 77) C (h) ex2 h24 dX4_ends_76 (by first | assumption | exact rfl | exact al13 rfl | exact Nat.le_of_ble_eq_true rfl) rfl rfl rfl ?_
      refine g_aload_n (pc' := 78) C dX4_ends_77 rfl rfl ?_
      refine f_X4_56 (pc' := 81) C dX4_ends_78 (by first | assumption | exact rfl | exact al13 rfl | exact Nat.le_of_ble_eq_true rfl) rfl ?_
      refine g_iload_n (pc' := 82) C dX4_ends_81 rfl rfl ?_
      refine g_iald (pc' := 83) C (h) ex2 h24 dX4_ends_82 (by first | assumption | exact rfl | exact al13 rfl | exact Nat.le_of_ble_eq_true rfl) rfl rfl rfl ?_
      refine g_iadd (pc' := 84) C dX4_ends_83 rfl ?_
      refine g_aload_n (pc' := 85) C dX4_ends_84 rfl rfl ?_
      refine f_X4_85 (pc' := 88) C dX4_ends_85 (by first | assumption | exact rfl | exact al13 rfl | exact Nat.le_of_ble_eq_true rfl) rfl ?_
      refine g_icmp_ne (tgt := 177) (pc' := 91) C dX4_ends_88 (by decide) rfl (fun c3 => ?_) (fun c3 => ?_)
      ·
        refine g_iinc (pc' := 180) C dX4_ends_177 rfl (ii1 _) rfl rfl ?_
        refine g_goto (tgt := 54) C dX4_ends_180 (by decide) ?_
        refine G_pick [0, 1, 2] rfl (ih (h + 1) _ _ _ (by first | exact X | exact (X.up _ (by omega)).up _ (by omega)) (by rw [ex2]; exact nI_1 h) (by omega) ?_)
        simpa [eBL, eBS, eB, upI_at, c1, c2, c3] using hpost
      ·
        refine g_aload_n (pc' := 92) C dX4_ends_91 rfl rfl ?_
        refine g_aload_n (pc' := 93) C dX4_ends_92 rfl rfl ?_
        refine f_X4_44 (pc' := 96) C dX4_ends_93 (by first | assumption | exact rfl | exact al13 rfl | exact Nat.le_of_ble_eq_true rfl) rfl ?_
        refine g_iload_n (pc' := 97) C dX4_ends_96 rfl rfl ?_
        refine g_iald (pc' := 98) C (h) ex2 h24 dX4_ends_97 (by first | assumption | exact rfl | exact al13 rfl | exact Nat.le_of_ble_eq_true rfl) rfl rfl rfl ?_
        refine k_X4_107 (pc' := 101) C (m_X4_isOpen (X.mt hh) (X.mt2 hh)) dX4_ends_98 (by first | assumption | exact rfl | exact al13 rfl | exact Nat.le_of_ble_eq_true rfl) ⟨⟨Nat.le_of_ble_eq_true rfl, Nat.le_of_ble_eq_true rfl⟩, rfl, rfl⟩ (Nat.le_of_ble_eq_true rfl) ⟨Nat.zero_le _, Nat.zero_le _⟩ rfl ?_
        refine g_if_eq (tgt := 118) (pc' := 104) C dX4_ends_101 (by decide) rfl (fun c4 => ?_) (fun c4 => ?_)
        ·
          have c4 := b2_0.mp c4
          refine g_iconst (v := 0) (pc' := 119) C dX4_ends_118 (by decide) rfl ?_
          refine g_istore_n (pc' := 120) C dX4_ends_119 rfl rfl ?_
          refine g_aload_n (pc' := 121) C dX4_ends_120 rfl rfl ?_
          refine f_X4_41 (pc' := 124) C dX4_ends_121 (by first | assumption | exact rfl | exact al13 rfl | exact Nat.le_of_ble_eq_true rfl) rfl ?_
          refine g_iload_n (pc' := 125) C dX4_ends_124 rfl rfl ?_
          refine g_iload_n (pc' := 126) C dX4_ends_125 rfl rfl ?_
          refine g_if_eq (tgt := 133) (pc' := 129) C dX4_ends_126 (by decide) rfl (fun c5 => ?_) (fun c5 => absurd (by first | decide | rw [thv]; decide) c5)
          refine g_iconst (v := 2) (pc' := 134) C dX4_ends_133 (by decide) rfl ?_
          refine g_iast (pc' := 135) C (h) ex2 h24 dX4_ends_134 (by first | assumption | exact rfl | exact al13 rfl | exact Nat.le_of_ble_eq_true rfl) (fun _ => rfl) rfl rfl ?_
          refine g_aload_n (pc' := 136) C dX4_ends_135 rfl rfl ?_
          refine f_X4_20 (pc' := 139) C dX4_ends_136 (by first | assumption | exact rfl | exact al13 rfl | exact Nat.le_of_ble_eq_true rfl) rfl ?_
          refine g_aload_n (pc' := 140) C dX4_ends_139 rfl rfl ?_
          refine f_X4_44 (pc' := 143) C dX4_ends_140 (by first | assumption | exact rfl | exact al13 rfl | exact Nat.le_of_ble_eq_true rfl) rfl ?_
          refine g_iload_n (pc' := 144) C dX4_ends_143 rfl rfl ?_
          refine g_iald (pc' := 145) C (h) ex2 h24 dX4_ends_144 (by first | assumption | exact rfl | exact al13 rfl | exact Nat.le_of_ble_eq_true rfl) rfl rfl rfl ?_
          refine g_iload_n (pc' := 146) C dX4_ends_145 rfl rfl ?_
          refine g_if_eq (tgt := 153) (pc' := 149) C dX4_ends_146 (by decide) rfl (fun c6 => ?_) (fun c6 => absurd (by first | decide | rw [thv]; decide) c6)
          refine g_aload_n (pc' := 154) C dX4_ends_153 rfl rfl ?_
          refine f_X4_20 (pc' := 157) C dX4_ends_154 (by first | assumption | exact rfl | exact al13 rfl | exact Nat.le_of_ble_eq_true rfl) rfl ?_
          refine g_aload_n (pc' := 158) C dX4_ends_157 rfl rfl ?_
          refine f_X4_44 (pc' := 161) C dX4_ends_158 (by first | assumption | exact rfl | exact al13 rfl | exact Nat.le_of_ble_eq_true rfl) rfl ?_
          refine g_iload_n (pc' := 162) C dX4_ends_161 rfl rfl ?_
          refine g_iald (pc' := 163) C (h) ex2 h24 dX4_ends_162 (by first | assumption | exact rfl | exact al13 rfl | exact Nat.le_of_ble_eq_true rfl) rfl rfl rfl ?_
          refine g_iald (pc' := 164) C (mm I h) (by rw [upI_at, if_neg (by omega)]; exact X.mt hh) (X.mt2 hh) dX4_ends_163 (by first | assumption | exact rfl | exact al13 rfl | exact Nat.le_of_ble_eq_true rfl) rfl rfl rfl ?_
          refine g_iast (pc' := 165) C (mm I h) (by rw [upI_at, if_neg (by omega)]; exact X.mt hh) (X.mt2 hh) dX4_ends_164 (by first | assumption | exact rfl | exact al13 rfl | exact Nat.le_of_ble_eq_true rfl) (fun _ => rfl) rfl rfl ?_
          refine g_iload_n (pc' := 166) C dX4_ends_165 rfl rfl ?_
          refine g_iload_n (pc' := 167) C dX4_ends_166 rfl rfl ?_
          refine g_if_eq (tgt := 174) (pc' := 170) C dX4_ends_167 (by decide) rfl (fun c7 => ?_) (fun c7 => absurd (by first | decide | rw [thv]; decide) c7)
          refine g_iconst (v := 0) (pc' := 175) C dX4_ends_174 (by decide) rfl ?_
          refine g_iadd (pc' := 176) C dX4_ends_175 rfl ?_
          refine g_istore_n (pc' := 177) C dX4_ends_176 rfl rfl ?_
          refine g_iinc (pc' := 180) C dX4_ends_177 rfl (ii1 _) rfl rfl ?_
          refine g_goto (tgt := 54) C dX4_ends_180 (by decide) ?_
          refine G_pick [0, 1, 2] rfl (ih (h + 1) _ _ _ (by first | exact X | exact (X.up _ (by omega)).up _ (by omega)) (by rw [ex2]; exact nI_1 h) (by omega) ?_)
          simpa [eBL, eBS, eB, upI_at, c1, c2, c3, c4, c5, c6, c7] using hpost
        ·
          have c4 := b2_1.mp c4
          refine g_aload_n (pc' := 105) C dX4_ends_104 rfl rfl ?_
          refine f_X4_59 (pc' := 108) C dX4_ends_105 (by first | assumption | exact rfl | exact al13 rfl | exact Nat.le_of_ble_eq_true rfl) rfl ?_
          refine g_iload_n (pc' := 109) C dX4_ends_108 rfl rfl ?_
          refine g_iald (pc' := 110) C (h) ex2 h24 dX4_ends_109 (by first | assumption | exact rfl | exact al13 rfl | exact Nat.le_of_ble_eq_true rfl) rfl rfl rfl ?_
          refine g_iconst (v := 3) (pc' := 111) C dX4_ends_110 (by decide) rfl ?_
          refine g_icmp_ne (tgt := 118) (pc' := 114) C dX4_ends_111 (by decide) rfl (fun c8 => ?_) (fun c8 => ?_)
          ·
            refine g_iconst (v := 0) (pc' := 119) C dX4_ends_118 (by decide) rfl ?_
            refine g_istore_n (pc' := 120) C dX4_ends_119 rfl rfl ?_
            refine g_aload_n (pc' := 121) C dX4_ends_120 rfl rfl ?_
            refine f_X4_41 (pc' := 124) C dX4_ends_121 (by first | assumption | exact rfl | exact al13 rfl | exact Nat.le_of_ble_eq_true rfl) rfl ?_
            refine g_iload_n (pc' := 125) C dX4_ends_124 rfl rfl ?_
            refine g_iload_n (pc' := 126) C dX4_ends_125 rfl rfl ?_
            refine g_if_eq (tgt := 133) (pc' := 129) C dX4_ends_126 (by decide) rfl (fun c9 => ?_) (fun c9 => absurd (by first | decide | rw [thv]; decide) c9)
            refine g_iconst (v := 2) (pc' := 134) C dX4_ends_133 (by decide) rfl ?_
            refine g_iast (pc' := 135) C (h) ex2 h24 dX4_ends_134 (by first | assumption | exact rfl | exact al13 rfl | exact Nat.le_of_ble_eq_true rfl) (fun _ => rfl) rfl rfl ?_
            refine g_aload_n (pc' := 136) C dX4_ends_135 rfl rfl ?_
            refine f_X4_20 (pc' := 139) C dX4_ends_136 (by first | assumption | exact rfl | exact al13 rfl | exact Nat.le_of_ble_eq_true rfl) rfl ?_
            refine g_aload_n (pc' := 140) C dX4_ends_139 rfl rfl ?_
            refine f_X4_44 (pc' := 143) C dX4_ends_140 (by first | assumption | exact rfl | exact al13 rfl | exact Nat.le_of_ble_eq_true rfl) rfl ?_
            refine g_iload_n (pc' := 144) C dX4_ends_143 rfl rfl ?_
            refine g_iald (pc' := 145) C (h) ex2 h24 dX4_ends_144 (by first | assumption | exact rfl | exact al13 rfl | exact Nat.le_of_ble_eq_true rfl) rfl rfl rfl ?_
            refine g_iload_n (pc' := 146) C dX4_ends_145 rfl rfl ?_
            refine g_if_eq (tgt := 153) (pc' := 149) C dX4_ends_146 (by decide) rfl (fun c10 => ?_) (fun c10 => absurd (by first | decide | rw [thv]; decide) c10)
            refine g_aload_n (pc' := 154) C dX4_ends_153 rfl rfl ?_
            refine f_X4_20 (pc' := 157) C dX4_ends_154 (by first | assumption | exact rfl | exact al13 rfl | exact Nat.le_of_ble_eq_true rfl) rfl ?_
            refine g_aload_n (pc' := 158) C dX4_ends_157 rfl rfl ?_
            refine f_X4_44 (pc' := 161) C dX4_ends_158 (by first | assumption | exact rfl | exact al13 rfl | exact Nat.le_of_ble_eq_true rfl) rfl ?_
            refine g_iload_n (pc' := 162) C dX4_ends_161 rfl rfl ?_
            refine g_iald (pc' := 163) C (h) ex2 h24 dX4_ends_162 (by first | assumption | exact rfl | exact al13 rfl | exact Nat.le_of_ble_eq_true rfl) rfl rfl rfl ?_
            refine g_iald (pc' := 164) C (mm I h) (by rw [upI_at, if_neg (by omega)]; exact X.mt hh) (X.mt2 hh) dX4_ends_163 (by first | assumption | exact rfl | exact al13 rfl | exact Nat.le_of_ble_eq_true rfl) rfl rfl rfl ?_
            refine g_iast (pc' := 165) C (mm I h) (by rw [upI_at, if_neg (by omega)]; exact X.mt hh) (X.mt2 hh) dX4_ends_164 (by first | assumption | exact rfl | exact al13 rfl | exact Nat.le_of_ble_eq_true rfl) (fun _ => rfl) rfl rfl ?_
            refine g_iload_n (pc' := 166) C dX4_ends_165 rfl rfl ?_
            refine g_iload_n (pc' := 167) C dX4_ends_166 rfl rfl ?_
            refine g_if_eq (tgt := 174) (pc' := 170) C dX4_ends_167 (by decide) rfl (fun c11 => ?_) (fun c11 => absurd (by first | decide | rw [thv]; decide) c11)
            refine g_iconst (v := 0) (pc' := 175) C dX4_ends_174 (by decide) rfl ?_
            refine g_iadd (pc' := 176) C dX4_ends_175 rfl ?_
            refine g_istore_n (pc' := 177) C dX4_ends_176 rfl rfl ?_
            refine g_iinc (pc' := 180) C dX4_ends_177 rfl (ii1 _) rfl rfl ?_
            refine g_goto (tgt := 54) C dX4_ends_180 (by decide) ?_
            refine G_pick [0, 1, 2] rfl (ih (h + 1) _ _ _ (by first | exact X | exact (X.up _ (by omega)).up _ (by omega)) (by rw [ex2]; exact nI_1 h) (by omega) ?_)
            simpa [eBL, eBS, eB, upI_at, c1, c2, c3, c4, c8, c9, c10, c11] using hpost
          ·
            refine g_iconst (v := 1) (pc' := 115) C dX4_ends_114 (by decide) rfl ?_
            refine g_goto (tgt := 119) C dX4_ends_115 (by decide) ?_
            refine g_istore_n (pc' := 120) C dX4_ends_119 rfl rfl ?_
            refine g_aload_n (pc' := 121) C dX4_ends_120 rfl rfl ?_
            refine f_X4_41 (pc' := 124) C dX4_ends_121 (by first | assumption | exact rfl | exact al13 rfl | exact Nat.le_of_ble_eq_true rfl) rfl ?_
            refine g_iload_n (pc' := 125) C dX4_ends_124 rfl rfl ?_
            refine g_iload_n (pc' := 126) C dX4_ends_125 rfl rfl ?_
            refine g_if_eq (tgt := 133) (pc' := 129) C dX4_ends_126 (by decide) rfl (fun c12 => absurd c12 (by first | decide | rw [thv]; decide)) (fun c12 => ?_)
            refine g_iconst (v := 1) (pc' := 130) C dX4_ends_129 (by decide) rfl ?_
            refine g_goto (tgt := 134) C dX4_ends_130 (by decide) ?_
            refine g_iast (pc' := 135) C (h) ex2 h24 dX4_ends_134 (by first | assumption | exact rfl | exact al13 rfl | exact Nat.le_of_ble_eq_true rfl) (fun _ => rfl) rfl rfl ?_
            refine g_aload_n (pc' := 136) C dX4_ends_135 rfl rfl ?_
            refine f_X4_20 (pc' := 139) C dX4_ends_136 (by first | assumption | exact rfl | exact al13 rfl | exact Nat.le_of_ble_eq_true rfl) rfl ?_
            refine g_aload_n (pc' := 140) C dX4_ends_139 rfl rfl ?_
            refine f_X4_44 (pc' := 143) C dX4_ends_140 (by first | assumption | exact rfl | exact al13 rfl | exact Nat.le_of_ble_eq_true rfl) rfl ?_
            refine g_iload_n (pc' := 144) C dX4_ends_143 rfl rfl ?_
            refine g_iald (pc' := 145) C (h) ex2 h24 dX4_ends_144 (by first | assumption | exact rfl | exact al13 rfl | exact Nat.le_of_ble_eq_true rfl) rfl rfl rfl ?_
            refine g_iload_n (pc' := 146) C dX4_ends_145 rfl rfl ?_
            refine g_if_eq (tgt := 153) (pc' := 149) C dX4_ends_146 (by decide) rfl (fun c13 => absurd c13 (by first | decide | rw [thv]; decide)) (fun c13 => ?_)
            refine g_iconst (v := 1) (pc' := 150) C dX4_ends_149 (by decide) rfl ?_
            refine g_goto (tgt := 164) C dX4_ends_150 (by decide) ?_
            refine g_iast (pc' := 165) C (mm I h) (by rw [upI_at, if_neg (by omega)]; exact X.mt hh) (X.mt2 hh) dX4_ends_164 (by first | assumption | exact rfl | exact al13 rfl | exact Nat.le_of_ble_eq_true rfl) (fun _ => rfl) rfl rfl ?_
            refine g_iload_n (pc' := 166) C dX4_ends_165 rfl rfl ?_
            refine g_iload_n (pc' := 167) C dX4_ends_166 rfl rfl ?_
            refine g_if_eq (tgt := 174) (pc' := 170) C dX4_ends_167 (by decide) rfl (fun c14 => absurd c14 (by first | decide | rw [thv]; decide)) (fun c14 => ?_)
            refine g_iconst (v := 1) (pc' := 171) C dX4_ends_170 (by decide) rfl ?_
            refine g_goto (tgt := 175) C dX4_ends_171 (by decide) ?_
            refine g_iadd (pc' := 176) C dX4_ends_175 rfl ?_
            refine g_istore_n (pc' := 177) C dX4_ends_176 rfl rfl ?_
            refine g_iinc (pc' := 180) C dX4_ends_177 rfl (ii1 _) rfl rfl ?_
            refine g_goto (tgt := 54) C dX4_ends_180 (by decide) ?_
            refine G_pick [0, 1, 2] rfl (ih (h + 1) _ _ _ (by first | exact X | exact (X.up _ (by omega)).up _ (by omega)) (by rw [ex2]; exact nI_1 h) (by omega) ?_)
            simpa [eBL, eBS, eB, upI_at, c1, c2, c3, c4, c8, c12, c13, c14] using hpost
set_option maxRecDepth 20000 in
theorem l_X4_endsA {K : wK} {z : wZ} {P : wP} {O : wO} {post : Option Value → wI → wP → Prop} {M N : Nat} {x1 : Int32} (C : Cx K cX4_ends RX4 4 ((some .int)) { frames := 1, cells := 0, slots := 0, locals := 21 } z) (hR : Rx K z O post) : ∀ (n m : Nat) (x2 : Int32) (I : wI), MI M N I → x2 = nI m → m + n = M → post (some (.int (eBL N 0 (eN (eAL n m I), x1)).2)) (eCL M 0 (eBL N 0 (eN (eAL n m I), x1)).1) P → G K z I P O 0 0 4 [(0, .ref ((Kg K).2.2 12 0)), (1, .int x1), (2, .int x2)] [] := by
  intro n
  induction n with
  | zero =>
    intro m x2 I X ex2 hk hpost
    have hM12 := X.1
    refine g_iload_n (pc' := 5) C dX4_ends_4 rfl rfl ?_
    refine g_aload_n (pc' := 6) C dX4_ends_5 rfl rfl ?_
    refine f_X4_75 (pc' := 9) C dX4_ends_6 (by first | assumption | exact rfl | exact al13 rfl | exact Nat.le_of_ble_eq_true rfl) rfl ?_
    refine g_icmp_ge (tgt := 42) (pc' := 12) C dX4_ends_9 (by decide) rfl (fun c1 => ?_) (fun c1 => absurd (by rw [ex2, X.2.2.1, show m = M by omega]; exact Int32.le_refl _) c1)
    refine g_aload_n (pc' := 43) C dX4_ends_42 rfl rfl ?_
    refine g_dup (pc' := 44) C dX4_ends_43 rfl rfl ?_
    refine f_X4_85 (pc' := 47) C dX4_ends_44 (by first | assumption | exact rfl | exact al13 rfl | exact Nat.le_of_ble_eq_true rfl) rfl ?_
    refine g_iconst (v := 1) (pc' := 48) C dX4_ends_47 (by decide) rfl ?_
    refine g_iadd (pc' := 49) C dX4_ends_48 rfl ?_
    refine p_X4_85 (pc' := 52) C dX4_ends_49 (by first | assumption | exact rfl | exact al13 rfl | exact Nat.le_of_ble_eq_true rfl) rfl ?_
    refine g_iconst (v := 0) (pc' := 53) C dX4_ends_52 (by decide) rfl ?_
    refine g_istore_n (pc' := 54) C dX4_ends_53 rfl rfl ?_
    exact G_pick [0, 1, 2] rfl (l_X4_endsB C hR N 0 _ 0 _ (X.up _ (by omega)) nI_0.symm (by omega) hpost)
  | succ n ih =>
    intro m x2 I X ex2 hk hpost
    have hM12 := X.1
    have hmM : m < M := by omega
    have m12 : m < 12 := by omega
    refine g_iload_n (pc' := 5) C dX4_ends_4 rfl rfl ?_
    refine g_aload_n (pc' := 6) C dX4_ends_5 rfl rfl ?_
    refine f_X4_75 (pc' := 9) C dX4_ends_6 (by first | assumption | exact rfl | exact al13 rfl | exact Nat.le_of_ble_eq_true rfl) rfl ?_
    refine g_icmp_ge (tgt := 42) (pc' := 12) C dX4_ends_9 (by decide) rfl (fun c1 => absurd c1 (by rw [ex2, X.2.2.1]; exact nI_ge hmM (by omega))) (fun c1 => ?_)
    refine g_aload_n (pc' := 13) C dX4_ends_12 rfl rfl ?_
    refine f_X4_38 (pc' := 16) C dX4_ends_13 (by first | assumption | exact rfl | exact al13 rfl | exact Nat.le_of_ble_eq_true rfl) rfl ?_
    refine g_iload_n (pc' := 17) C dX4_ends_16 rfl rfl ?_
    refine g_dup2 (pc' := 18) C dX4_ends_17 rfl rfl rfl ?_
    refine g_iald (pc' := 19) C (m) ex2 m12 dX4_ends_18 (by first | assumption | exact rfl | exact al13 rfl | exact Nat.le_of_ble_eq_true rfl) rfl rfl rfl ?_
    refine g_aload_n (pc' := 20) C dX4_ends_19 rfl rfl ?_
    refine f_X4_20 (pc' := 23) C dX4_ends_20 (by first | assumption | exact rfl | exact al13 rfl | exact Nat.le_of_ble_eq_true rfl) rfl ?_
    refine g_iload_n (pc' := 24) C dX4_ends_23 rfl rfl ?_
    refine g_iald (pc' := 25) C (m) ex2 m12 dX4_ends_24 (by first | assumption | exact rfl | exact al13 rfl | exact Nat.le_of_ble_eq_true rfl) rfl rfl rfl ?_
    refine g_iconst (v := 3) (pc' := 26) C dX4_ends_25 (by decide) rfl ?_
    refine g_icmp_ne (tgt := 33) (pc' := 29) C dX4_ends_26 (by decide) rfl (fun c2 => ?_) (fun c2 => ?_)
    ·
      refine g_iconst (v := 0) (pc' := 34) C dX4_ends_33 (by decide) rfl ?_
      refine g_iadd (pc' := 35) C dX4_ends_34 rfl ?_
      refine g_iast (pc' := 36) C (m) ex2 m12 dX4_ends_35 (by first | assumption | exact rfl | exact al13 rfl | exact Nat.le_of_ble_eq_true rfl) (fun _ => rfl) rfl rfl ?_
      refine g_iinc (pc' := 39) C dX4_ends_36 rfl (ii1 _) rfl rfl ?_
      refine g_goto (tgt := 4) C dX4_ends_39 (by decide) ?_
      refine G_pick [0, 1, 2] rfl (ih (m + 1) _ _ (X.up _ (by omega)) (by rw [ex2]; exact nI_1 m) (by omega) ?_)
      simpa [eAL, eAS, c1, c2] using hpost
    ·
      refine g_iconst (v := 1) (pc' := 30) C dX4_ends_29 (by decide) rfl ?_
      refine g_goto (tgt := 34) C dX4_ends_30 (by decide) ?_
      refine g_iadd (pc' := 35) C dX4_ends_34 rfl ?_
      refine g_iast (pc' := 36) C (m) ex2 m12 dX4_ends_35 (by first | assumption | exact rfl | exact al13 rfl | exact Nat.le_of_ble_eq_true rfl) (fun _ => rfl) rfl rfl ?_
      refine g_iinc (pc' := 39) C dX4_ends_36 rfl (ii1 _) rfl rfl ?_
      refine g_goto (tgt := 4) C dX4_ends_39 (by decide) ?_
      refine G_pick [0, 1, 2] rfl (ih (m + 1) _ _ (X.up _ (by omega)) (by rw [ex2]; exact nI_1 m) (by omega) ?_)
      simpa [eAL, eAS, c1, c2] using hpost
def mEn (M N : Nat) (I : wI) : wI × Int32 := (eCL M 0 (eBL N 0 (eN (eAL M 0 I), 0)).1, (eBL N 0 (eN (eAL M 0 I), 0)).2)
theorem MI.eCL' {M N : Nat} : ∀ (n m : Nat) (I : wI), MI M N I → MI M N (eCL n m I)
  | 0, _, _, X => X
  | n + 1, m, I, X => MI.eCL' n (m + 1) _ X.eC
theorem MI.en {M N : Nat} {I : wI} (X : MI M N I) : MI M N (mEn M N I).1 := MI.eCL' _ _ _ (MI.eBL' _ _ _ ((MI.eAL' _ _ _ X).up _ (by omega)))
set_option maxRecDepth 20000 in
theorem m_X4_ends {l : Launch} {g : wG} {z : wZ} {I : wI} {P : wP} {O : wO} {M N : Nat} (X : MI M N I) : RT l yX4_ends cX4_ends 4 ((some .int)) { frames := 1, cells := 0, slots := 0, locals := 21 } g z [.ref (g.2.2 12 0)] I P O (dp (some (.int (mEn M N I).2)) ((mEn M N I).1) (P)) := by
  refine RT.of (own := RX4) rfl (by decide +kernel) (Nat.le_of_ble_eq_true rfl) rfl (fun K C hl hg hR => ?_)
  subst hl
  subst hg
  refine g_iconst (v := 0) (pc' := 1) C dX4_ends_0 (by decide) rfl ?_
  refine g_istore_n (pc' := 2) C dX4_ends_1 rfl rfl ?_
  refine g_iconst (v := 0) (pc' := 3) C dX4_ends_2 (by decide) rfl ?_
  refine g_istore_n (pc' := 4) C dX4_ends_3 rfl rfl ?_
  exact l_X4_endsA C hR M 0 0 I X nI_0.symm (by omega) ⟨rfl, rfl, rfl⟩
end WModel3
