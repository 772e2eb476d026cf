section WLs6
variable {z : wZ} {nw : Nat} {I I' Ia : wI} {P P' : wP} {J J' J3 : wI} {L L' : wR}
theorem cnt_add {p : Nat → Bool} {a n : Nat} : ∀ d : Nat, cnt p a (n + d) = cnt p a n + cnt p (a + n) d
  | 0 => rfl
  | d + 1 => by
    rw [show n + (d + 1) = (n + d) + 1 by omega, cnt_snoc, cnt_add d, cnt_snoc, show a + (n + d) = a + n + d by omega]
    omega
theorem cnt_sh {p : Nat → Bool} {a : Nat} : ∀ n b : Nat, cnt p (a + b) n = cnt (fun k => p (a + k)) b n
  | 0, _ => rfl
  | n + 1, b => by
    show (if p (a + b) = true then 1 else 0) + cnt p (a + b + 1) n = (if p (a + b) = true then 1 else 0) + cnt (fun k => p (a + k)) (b + 1) n
    rw [← cnt_sh n (b + 1), show a + b + 1 = a + (b + 1) by omega]
theorem countP_fm {f : Nat → Option (Nat × Nat)} {p : Nat × Nat → Bool} : ∀ n : Nat, ((List.range n).filterMap f).countP p = cnt (fun k => (f k).any p) 0 n
  | 0 => rfl
  | n + 1 => by
    rw [List.range_succ, List.filterMap_append, List.countP_append, countP_fm n, cnt_snoc, Nat.zero_add]
    congr 1
    rcases hf : f n with _ | x
    · rw [List.filterMap_cons_none hf, List.filterMap_nil]; rfl
    · rw [List.filterMap_cons_some hf, List.filterMap_nil]
      show List.countP p [x] = if p x = true then 1 else 0
      by_cases h : p x = true
      · rw [if_pos h, List.countP_cons_of_pos h]; rfl
      · rw [if_neg h, List.countP_cons_of_neg h]; rfl
/-- how many hours the matter m has paid for, in the law's list -/
def lcN (L : wR) (nw m i : Nat) : Nat := cnt (fun k => (lpE L nw k).any (fun x => decide (x.2 % 16 = m))) 0 i
theorem lcN_s {m i : Nat} : lcN L nw m (i + 1) = lcN L nw m i + (if nw < uN L i / 8 ∧ vN L i % 16 = m then 1 else 0) := by
  unfold lcN
  rw [cnt_snoc, Nat.zero_add]
  congr 1
  unfold lpE
  by_cases h : nw < uN L i / 8
  · rw [if_pos h]
    by_cases h2 : vN L i % 16 = m <;> simp [h, h2]
  · rw [if_neg h]; simp [h]
theorem lcN_le {m i : Nat} : lcN L nw m i ≤ i := by
  induction i with
  | zero => exact Nat.le_refl _
  | succ i ih => rw [lcN_s]; split <;> omega
theorem jcnt {ex : Nat → Prop} (S : YS ex z nw J L) (X : MI z.1 z.2 J) {i m : Nat} (hi : i < 4) (hm : m < 8) : cnt (fun t => decide (J 13 22 (1004 * i + t) = nI m + 1)) (nw + 1) (1003 - nw) = cnt (fun p => (jpE J nw (16 * i + p)).any (fun x => decide (x.2 % 16 = m))) 0 16 := by
  have hn := S.n9
  have hM := S.M8
  have hF : ∀ t, nw + 10 < t → t ≤ 1003 → decide (J 13 22 (1004 * i + t) = nI m + 1) = false := fun t h1 h2 => decide_eq_false (fun q => by
    have h3 := S.v i t hi h1 h2
    unfold mpy at h3
    rw [q, nI_1, nI_clamp (by omega)] at h3
    omega)
  have e1 : cnt (fun t => decide (J 13 22 (1004 * i + t) = nI m + 1)) (nw + 1) (1003 - nw) = cnt (fun t => decide (J 13 22 (1004 * i + t) = nI m + 1)) (nw + 1) 16 := by
    have := cnt_ext (p := fun t => decide (J 13 22 (1004 * i + t) = nI m + 1)) (a := nw + 1) (n := 16) (1003 - nw - 16) (fun t h1 h2 => hF t (by omega) (by omega))
    rw [← this, show 16 + (1003 - nw - 16) = 1003 - nw by omega]
  rw [e1]
  have e2 : cnt (fun t => decide (J 13 22 (1004 * i + t) = nI m + 1)) (nw + 1) 16 = cnt (fun t => (fun p => (jpE J nw (16 * i + p)).any (fun x => decide (x.2 % 16 = m))) (t % 16)) (nw + 1) 16 := by
    refine cnt_congr _ _ (fun t h1 h2 => ?_)
    show decide (J 13 22 (1004 * i + t) = nI m + 1) = (jpE J nw (16 * i + t % 16)).any (fun x => decide (x.2 % 16 = m))
    obtain ⟨p1, p2⟩ := X.py (q := 1004 * i + t) (by omega)
    unfold jpE jpQ
    rw [show (16 * i + t % 16) / 16 = i by omega, show (16 * i + t % 16) % 16 = t % 16 by omega, hrO_at (by omega) (by omega)]
    by_cases h0 : mpy J (1004 * i + t) = 0
    · rw [if_pos h0, p1, h0, nI_1]
      exact decide_eq_false (fun q => by have := (nI_eq (by omega) (by omega)).mp q; omega)
    · rw [if_neg h0, p1, nI_1]
      show _ = decide ((mpy J (1004 * i + t) - 1 + 16 * amN J (1004 * i + t)) % 16 = m)
      rw [decide_eq_decide, nI_eq (by omega) (by omega)]
      omega
  rw [e2]
  exact cnt_mod (f := fun p => (jpE J nw (16 * i + p)).any (fun x => decide (x.2 % 16 = m))) (nw + 1)
theorem cnt_64 (Q : Nat → Bool) : cnt Q 0 64 = cnt (fun p => Q (16 * 0 + p)) 0 16 + cnt (fun p => Q (16 * 1 + p)) 0 16 + cnt (fun p => Q (16 * 2 + p)) 0 16 + cnt (fun p => Q (16 * 3 + p)) 0 16 := by
  have s : ∀ i, cnt (fun p => Q (16 * i + p)) 0 16 = cnt Q (16 * i) 16 := fun i => by
    have h := cnt_sh (p := Q) (a := 16 * i) 16 0
    rw [Nat.add_zero] at h
    exact h.symm
  have q1 := cnt_add (p := Q) (a := 0) (n := 16) 48
  have q2 := cnt_add (p := Q) (a := 16) (n := 16) 32
  have q3 := cnt_add (p := Q) (a := 32) (n := 16) 16
  rw [show (16 : Nat) + 48 = 64 from rfl, show (0 : Nat) + 16 = 16 from rfl] at q1
  rw [show (16 : Nat) + 32 = 48 from rfl, show (16 : Nat) + 16 = 32 from rfl] at q2
  rw [show (16 : Nat) + 16 = 32 from rfl, show (32 : Nat) + 16 = 48 from rfl] at q3
  rw [s 0, s 1, s 2, s 3, q1, q2, q3, show 16 * 0 = 0 from rfl, show 16 * 1 = 16 from rfl, show 16 * 2 = 32 from rfl, show 16 * 3 = 48 from rfl, Nat.add_assoc, Nat.add_assoc]
theorem tcO_c {x : Int32} : tcO J x nw 4 0 0 = nI (cnt (fun t => decide (J 13 22 (1004 * 0 + t) = x + 1)) (nw + 1) (1003 - nw) + cnt (fun t => decide (J 13 22 (1004 * 1 + t) = x + 1)) (nw + 1) (1003 - nw) + cnt (fun t => decide (J 13 22 (1004 * 2 + t) = x + 1)) (nw + 1) (1003 - nw) + cnt (fun t => decide (J 13 22 (1004 * 3 + t) = x + 1)) (nw + 1) (1003 - nw)) := by
  show tcI J x 3 (1003 - nw) (nw + 1) (tcI J x 2 (1003 - nw) (nw + 1) (tcI J x 1 (1003 - nw) (nw + 1) (tcI J x 0 (1003 - nw) (nw + 1) 0))) = _
  rw [tcI_cnt, tcI_cnt, tcI_cnt, tcI_cnt, Int32.zero_add, nI_add, nI_add, nI_add]
theorem tcO_lc {ex : Nat → Prop} (S : YS ex z nw J L) (X : MI z.1 z.2 J) {m : Nat} (hm : m < 8) : tcO (th J 0) (nI m) nw 4 0 0 = nI (lcN L nw m 64) := by
  have e0 : lcN L nw m 64 = cnt (fun e => (jpE J nw e).any (fun x => decide (x.2 % 16 = m))) 0 64 := by
    unfold lcN
    rw [← countP_fm 64, ← countP_fm 64]
    exact S.u.2.countP_eq _
  have e1 := cnt_64 (fun e => (jpE J nw e).any (fun x => decide (x.2 % 16 = m)))
  have j0 := jcnt S X (i := 0) (m := m) (by omega) hm
  have j1 := jcnt S X (i := 1) (m := m) (by omega) hm
  have j2 := jcnt S X (i := 2) (m := m) (by omega) hm
  have j3 := jcnt S X (i := 3) (m := m) (by omega) hm
  rw [tcO_c, th_13, j0, j1, j2, j3, e0, e1]
theorem about_v (S : Sim z nw I P J) (hM : z.1 ≤ 8) {k y : Nat} (hk : k < z.1) (hy : y ≤ 7) : cK15 z.1 (nI k) (nI y) = 0 ∧ cV15 I P (nI k).toNatClampNeg (nI y) = mV15 J nw k (nI y) := by
  have hc : (nI k).toNatClampNeg = k := nI_clamp (by omega)
  obtain ⟨h1, h2, -⟩ := s_about S (x := nI k) (y := nI y)
  have hK : mK15 z.1 (nI k) (nI y) = 0 := by
    unfold mK15
    rw [oM_nF hk (by omega), if_neg (by simp), if_pos (show inR (nI y) 0 7 = true from inR_nI (lo := 0) (hi := 7) (by omega) hy (by omega))]
  have hk0 := cK15_eq.trans hK
  refine ⟨hk0, ?_⟩
  have h3 := (h2 hk0).1
  unfold mO15 at h3
  rw [if_pos hK, hc] at h3
  rw [hc]; exact h3
theorem hearing_v (S : Sim z nw I P J) (hN : z.2 ≤ 16) {h y : Nat} (hh : h < z.2) (hy : y ≤ 7) : cK15 z.2 (nI h) (nI y) = 0 ∧ cV16 I P (nI h).toNatClampNeg (nI y) = mV16 J h (nI y) := by
  have hc : (nI h).toNatClampNeg = h := nI_clamp (by omega)
  obtain ⟨h1, h2, -⟩ := s_hearing S (x := nI h) (y := nI y)
  have hK : mK15 z.2 (nI h) (nI y) = 0 := by
    unfold mK15
    rw [oM_nF hh (by omega), if_neg (by simp), if_pos (show inR (nI y) 0 7 = true from inR_nI (lo := 0) (hi := 7) (by omega) hy (by omega))]
  have hk0 := cK15_eq.trans hK
  refine ⟨hk0, ?_⟩
  have h3 := (h2 hk0).1
  unfold mO16 at h3
  rw [if_pos hK, hc] at h3
  rw [hc]; exact h3
theorem paidBy_v (S : Sim z nw I P J) {i t : Nat} (hi : i < 4) (ht : t ≤ 1003) : cK17 (nI i) (nI t) = 0 ∧ cV17 I P (nI i) (nI t) = if nI t ≤ J 12 0 1 then -1 else J 13 22 (1004 * i + t) - 1 := by
  obtain ⟨h1, h2, -⟩ := s_paidBy S (x := nI i) (y := nI t)
  have hK : mK17 (nI i) (nI t) = 0 := by
    unfold mK17
    rw [if_pos ⟨inR_nI (lo := 0) (hi := 3) (by omega) (by omega) (by omega), inR_nI (lo := 0) (hi := 1003) (by omega) (by omega) (by omega)⟩]
  unfold mO17 at h1 h2
  rw [if_pos hK, nI_clamp (n := i) (by omega), nI_clamp (n := t) (by omega)] at h1 h2
  have hk0 : cK17 (nI i) (nI t) = 0 := by rw [← h1]; exact thv J 0
  exact ⟨hk0, (h2 hk0).1⟩
theorem at_v (S : Sim z nw I P J) {i t : Nat} (hi : i < 4) (ht : t ≤ 1003) : cK14 3 (nI i) (nI t) = 0 ∧ caL I P 3 (nI i) (nI t) z.2 0 = mAL J 3 (nI i) (nI t) z.2 0 (-1) := by
  obtain ⟨h1, h2, -⟩ := s_at S (x := 3) (y := nI i) (w := nI t)
  have hK : mK14 3 (nI i) (nI t) = 0 := by
    unfold mK14
    rw [if_pos (by decide), if_neg (c := (3 : Int32) = 2) (by decide), if_pos ⟨inR_nI (lo := 0) (hi := 3) (by omega) (by omega) (by omega), inR_nI (lo := 0) (hi := 1003) (by omega) (by omega) (by omega)⟩]
  unfold mO14 at h1 h2
  rw [if_pos hK] at h1 h2
  have hk0 : cK14 3 (nI i) (nI t) = 0 := by rw [← h1]; exact thv J 0
  refine ⟨hk0, (h2 hk0).1.trans ?_⟩
  have key : ∀ (n h : Nat) (x : Int32), mAL (th J 0) 3 (nI i) (nI t) n h x = mAL J 3 (nI i) (nI t) n h x := by
    intro n
    induction n with
    | zero => intro h x; rfl
    | succ n ih =>
      intro h x
      show mAL (th J 0) 3 (nI i) (nI t) n (h + 1) (mAS (th J 0) 3 (nI i) (nI t) h x) = mAL J 3 (nI i) (nI t) n (h + 1) (mAS J 3 (nI i) (nI t) h x)
      rw [ih]
      unfold mAS mIts mm
      rw [th_13]
  exact key _ _ _
theorem clash_v (S : Sim z nw I P J) (hM : z.1 ≤ 8) {j r f d : Nat} {w : Int32} (hj : j < z.1) (hr : r < 4) (hw : dom4 w) (hf : f ≤ 999) (hd : 0 < d) (hd4 : d ≤ 4) : cK13 z.1 (nI j) (nI r) w (nI f) (nI d) = 0 ∧ crL I P none (nI j).toNatClampNeg (nI r) w (nI f) (nI d) z.2 0 0 = mRe J z.2 j (nI r) w (nI f) (nI d) (-1) := by
  have hc : (nI j).toNatClampNeg = j := nI_clamp (by omega)
  obtain ⟨h1, h2, -⟩ := s_clash S (x := nI j) (r := nI r) (w := w) (a := nI f) (y := nI d)
  have hK : mK13 z.1 (nI j) (nI r) w (nI f) (nI d) = 0 := by
    unfold mK13
    rw [oM_nF hj (by omega), show inR (nI r) 0 3 = true from inR_nI (lo := 0) (hi := 3) (by omega) (by omega) (by omega), dom4_in hw, show inR (nI f) 0 999 = true from inR_nI (lo := 0) (hi := 999) (by omega) (by omega) (by omega), show inR (nI d) 1 4 = true from inR_nI (lo := 1) (hi := 4) (by omega) (by omega) (by omega), if_neg (by simp), if_neg (by simp)]
  unfold mO13 at h1 h2
  rw [if_pos hK, hc] at h1 h2
  have hk0 : cK13 z.1 (nI j) (nI r) w (nI f) (nI d) = 0 := by rw [← h1]; exact thv J 0
  rw [hc]
  refine ⟨hk0, (h2 hk0).1.trans (mRe_congr (fun g x _ _ _ => by rw [th_13]))⟩
theorem nt_sum {t : Nat} (ht : t ≤ 3) : (nI t &&& 1) + (nI t >>> ((1 : Int32) &&& 31)) = nI (t % 2 + t / 2) := by
  rcases (show t = 0 ∨ t = 1 ∨ t = 2 ∨ t = 3 by omega) with rfl | rfl | rfl | rfl <;> decide
theorem mt4_t {f d t : Nat} (hf : f < 10000) (hd : d < 10000) (ht : t < 10000) : mt4 (nI f) (nI d) (nI t) 1 = true ↔ f ≤ t ∧ t < f + d := by
  unfold mt4
  rw [nI_1, nI_add, Bool.and_eq_true, Bool.not_eq_true', Bool.not_eq_true', decide_eq_false_iff_not, decide_eq_false_iff_not, nI_leI (by omega) (by omega), nI_leI (by omega) (by omega)]
  omega
end WLs6
