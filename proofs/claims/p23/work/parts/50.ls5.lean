section WLs5
variable {z : wZ} {nw : Nat} {I I' Ia : wI} {P P' : wP} {J J' J3 : wI} {L L' : wR}
theorem fin_decide {j : Nat} {c3 : Int32} (S : Stt z nw I P J) (hO : Oth I Ia) (hj : j < z.1) (h1 : stN J j = 1) (hm : mdL j z.2 0 (th J 0, 0) = (J3, c3)) (Y : YS (fun _ => False) z nw (upI J3 13 6 j 2) (Ia 13)) : Stt z nw (cO4 Ia P z (nI j)).1 (cO4 Ia P z (nI j)).2.1 (upI J3 13 6 j 2) ∧ (cO4 Ia P z (nI j)).2.2 = c3 := by
  have hM := S.y.M8
  have hc : (nI j).toNatClampNeg = j := nI_clamp (by omega)
  have Sa := S.s.oth hO
  have hK : mKs J z.1 (nI j) 1 = 0 := by rw [Ks_v S.y hj (v := 1) (by omega) nI1'.symm, if_pos h1]
  obtain ⟨-, h2, -⟩ := s_decide Sa (x := nI j)
  have h3 := h2 ((cKs_eq Sa).trans hK)
  unfold mO4 at h3
  rw [if_pos hK, hc, mdL_6, hm] at h3
  refine ⟨⟨h3.2, ?_, rf_O4 S.r Sa⟩, h3.1⟩
  rw [show (cO4 Ia P z (nI j)).1 13 = Ia 13 from og_O4 13 (by decide)]
  exact Y
theorem fin_appeal {j : Nat} {b : Int32} (S : Stt z nw I P J) (hO : Oth I Ia) (hj : j < z.1) (h1 : stN J j = 2 ∧ 0 ≤ J 13 11 j) (hb : b = J 13 11 j - mFe J j 80) (Y : YS (fun _ => False) z nw (upI (upI J 13 6 j 3) 13 11 j b) (Ia 13)) : Stt z nw (cO5 Ia (nI j)) P (th (upI (upI J 13 6 j 3) 13 11 j b) 0) ∧ Ia 2 (nI j).toNatClampNeg 6 - ff Ia (nI j).toNatClampNeg 80 = b := by
  have hM := S.y.M8
  have hc : (nI j).toNatClampNeg = j := nI_clamp (by omega)
  have Sa := S.s.oth hO
  have hK : mK5 J z.1 (nI j) = 0 := by rw [K5_v S.y hj, if_pos h1]
  obtain ⟨-, h2, -⟩ := s_appeal Sa (x := nI j)
  have h3 := h2 ((cK5_eq Sa).trans hK)
  unfold mO5 at h3
  rw [if_pos hK, hc, ← hb] at h3
  have e : upI (upI (th J 0) 13 6 j 3) 13 11 j b = th (upI (upI J 13 6 j 3) 13 11 j b) 0 := by
    unfold th
    rw [upI_swap J (by omega), upI_swap _ (by omega)]
  rw [hc]
  refine ⟨⟨by rw [← e]; exact h3.2, ?_, S.r⟩, h3.1⟩
  rw [show cO5 Ia (nI j) 13 = Ia 13 from og_O5 13 (by decide)]
  exact Y.thr 0
theorem upI2_13 {a b : Nat} {v : Int32} : upI I 2 a b v 13 = I 13 := upI_kind (by decide)
theorem fin_settle {j gr : Nat} {b : Int32} (S : Stt z nw I P J) (hO : Oth I Ia) (hj : j < z.1) (h1 : stN J j = 3) (hb : b = if nI gr = 0 then 2 else 0) (Y : YS (fun _ => False) z nw (upI J 13 6 j b) (Ia 13)) : Stt z nw (upI Ia 2 (nI j).toNatClampNeg 5 (if nI gr = 0 then 2 else 0)) P (th (upI J 13 6 j b) 0) ∧ Ia 2 (nI j).toNatClampNeg 7 = J 13 12 j := by
  have hM := S.y.M8
  have hc : (nI j).toNatClampNeg = j := nI_clamp (by omega)
  have Sa := S.s.oth hO
  have hK : mKs J z.1 (nI j) 3 = 0 := by rw [Ks_v S.y hj (v := 3) (by omega) (by decide), if_pos h1]
  obtain ⟨-, h2, -⟩ := s_settle Sa (x := nI j) (y := nI gr)
  have h3 := h2 ((cKs_eq Sa).trans hK)
  unfold mO6 at h3
  rw [if_pos hK, hc, ← hb] at h3
  have e : upI (th J 0) 13 6 j b = th (upI J 13 6 j b) 0 := by unfold th; rw [upI_swap J (by omega)]
  rw [hc, ← hb]
  refine ⟨⟨by rw [← e]; exact h3.2, ?_, S.r⟩, h3.1⟩
  rw [upI2_13]
  exact Y.thr 0
theorem fin_close {j : Nat} (S : Stt z nw I P J) (hO : Oth I Ia) (hj : j < z.1) (h1 : stN J j = 2) (Y : YS (fun _ => False) z nw (upI J 13 6 j 4) (Ia 13)) : Stt z nw (upI Ia 2 (nI j).toNatClampNeg 5 4) P (th (upI J 13 6 j 4) 0) ∧ Ia 2 (nI j).toNatClampNeg 6 = J 13 11 j := by
  have hM := S.y.M8
  have hc : (nI j).toNatClampNeg = j := nI_clamp (by omega)
  have Sa := S.s.oth hO
  have hK : mKs J z.1 (nI j) 2 = 0 := by rw [Ks_v S.y hj (v := 2) (by omega) (by decide), if_pos h1]
  obtain ⟨-, h2, -⟩ := s_close Sa (x := nI j)
  have h3 := h2 ((cKs_eq Sa).trans hK)
  unfold mO7 at h3
  rw [if_pos hK, hc] at h3
  have e : upI (th J 0) 13 6 j 4 = th (upI J 13 6 j 4) 0 := by unfold th; rw [upI_swap J (by omega)]
  rw [hc]
  refine ⟨⟨by rw [← e]; exact h3.2, ?_, S.r⟩, h3.1⟩
  rw [upI2_13]
  exact Y.thr 0
theorem cK3_v {j a M : Nat} (hj : j < M) (hM : M ≤ 8) (ha : 0 < a) (ha2 : a ≤ 9999) : cK3 M (nI j) (nI a) = 0 := by
  unfold cK3
  rw [oM_nF hj (by omega), if_neg (by simp), if_neg]
  rintro (q | q)
  · rw [show (1 : Int32) = nI 1 from by decide, nI_ltI (by omega) (by omega)] at q; omega
  · rw [show (9999 : Int32) = nI 9999 from by decide, nI_ltI (by omega) (by omega)] at q; omega
theorem fin_pay {j a : Nat} (S : Stt z nw I P J) (hO : Oth I Ia) (hj : j < z.1) (ha : 0 < a) (ha2 : a ≤ 9999) (Y : YS (fun _ => False) z nw (upI J 13 11 j (J 13 11 j + nI a)) (Ia 13)) : Stt z nw (upI Ia 2 (nI j).toNatClampNeg 6 (Ia 2 (nI j).toNatClampNeg 6 + nI a)) P (th (upI J 13 11 j (J 13 11 j + nI a)) 0) ∧ Ia 2 (nI j).toNatClampNeg 6 + nI a = J 13 11 j + nI a := by
  have hM := S.y.M8
  have hc : (nI j).toNatClampNeg = j := nI_clamp (by omega)
  have Sa := S.s.oth hO
  have hb : Ia 2 j 6 = J 13 11 j := Sa.B j hj
  rw [hc, hb]
  refine ⟨⟨(Sa.bal (x := J 13 11 j + nI a) (y := J 13 11 j + nI a) rfl).thr 0, ?_, S.r⟩, rfl⟩
  rw [upI2_13]
  exact Y.thr 0
end WLs5
