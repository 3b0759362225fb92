/-! PURE: X's subtract, multiply, fuse, copy, scale -/
set_option maxHeartbeats 1000000 in
theorem X_sub_ok {st : ASt} (hI : Inv st) (e1 : Int32) (e2 e3 : Int64) (e4 e5 e6 : Int32) (e7 e8 : Int64) (e9 e10 a1 a2 a3 a4 : Int32) : ∃ j1 j2 j3 j4 j5 j6 j7 j8 j9 j10, f_X_subtract st.2.2.1 st.2.2.2.1 st.2.2.2.2 (xM st) (xP st) e1 e2 e3 e4 e5 e6 e7 e8 e9 e10 a1 a2 a3 a4 = some ((A_sub st a1 a2 a3 a4).1, (A_sub st a1 a2 a3 a4).2.2.2.1, (A_sub st a1 a2 a3 a4).2.2.2.2.1, (A_sub st a1 a2 a3 a4).2.2.2.2.2, xM (A_sub st a1 a2 a3 a4).2, xP (A_sub st a1 a2 a3 a4).2, j1, j2, j3, j4, j5, j6, j7, j8, j9, j10) := by
  unfold f_X_subtract A_sub
  rw [may_ok hI]
  simp only [Option.bind_some]
  by_cases h : tk st a1 a2 a3 a4
  · rw [decide_eq_true h, if_neg (show ¬ bI true = 0 by decide), if_pos h]
    obtain ⟨d, hd, rfl⟩ := okr_nI h.1
    obtain ⟨i, hi, rfl⟩ := okr_nI h.2.1
    obtain ⟨j, hj, rfl⟩ := okr_nI h.2.2.1
    have hfi := reg_facts (hI i).1
    have hfj := reg_facts (hI j).1
    simp only [if_neg (in8 hi), if_neg (in8 hj)]
    simp only [ix, cl8 hi, cl8 hj, cl8 hd]
    rw [show xM st i = lI (mz (st.1 i) (st.2.1 i)) from rfl, show xM st j = lI (mz (st.1 j) (st.2.1 j)) from rfl, show xP st i = iI (pz (st.2.1 i)) from rfl, show xP st j = iI (pz (st.2.1 j)) from rfl, lI_neg]
    have ai := mz_abs (st.1 i) (st.2.1 i)
    have aj : (-(mz (st.1 j) (st.2.1 j))).natAbs = mt (st.2.1 j) := by rw [Int.natAbs_neg]; exact mz_abs (st.1 j) (st.2.1 j)
    rw [hold_ok _ _ _ _ _ (by omega) (by omega), hold_ok _ _ _ _ _ (by omega) (by omega)]
    simp only [Option.bind_some]
    rw [ai, aj, Int.sign_neg, mz_sign (hI i).1, mz_sign (hI j).1]
    have s3 := sgn_3 (st.1 j) (st.2.1 j)
    have s0 := sgn_0 (st.1 j) (st.2.1 j)
    obtain ⟨o, ho, V, p, s, hsel, hR, hV, hs, hp1, hp2, -⟩ := sum_ok (sgn_3 (st.1 i) (st.2.1 i)) (sg2 := -sgn (st.1 j) (st.2.1 j)) (by omega) (by rw [sgn_0, hfi.2.2.2.2.1]) (by rw [hfj.2.2.2.2.1, ← s0]; omega) (by omega : mt (st.2.1 i) < 2 ^ 110) (by omega : mt (st.2.1 j) < 2 ^ 110) (p1 := pz (st.2.1 i)) (p2 := pz (st.2.1 j)) (by omega) (by omega)
    rw [ho]
    simp only [Option.bind_some]
    have hz : sumZ (sgn (st.1 i) (st.2.1 i)) (-sgn (st.1 j) (st.2.1 j)) (pz (st.2.1 i)) (pz (st.2.1 j)) (mt (st.2.1 i)) (mt (st.2.1 j)) = zz st i - zz st j := by
      have := sumZ_reg hI i j
      unfold sumZ at *
      have h2 : mt (st.2.1 j) * 2 ^ (pz (st.2.1 j) + 2000).toNat = st.2.1 j := hfj.2.1
      rw [h2, sgn_zz] at this
      rw [h2, Int.neg_mul, sgn_zz]; omega
    rw [hz] at hsel hR
    obtain ⟨k1, k2, k3, k4, hf⟩ := sum_fin (st := st) hd a4 hR hV hs hp1 hp2
    rcases hsel with ⟨q1, q2, q3, q4, q5, q6⟩ | ⟨q1, q2, q3, q4, q5, q6⟩
    · rw [if_pos q1, q2, q3, q4, q5, q6, hf]; exact ⟨_, _, _, _, _, _, _, _, _, _, rfl⟩
    · rw [if_neg (by rw [q1]; decide), q2, q3, q4, q5, q6, hf]; exact ⟨_, _, _, _, _, _, _, _, _, _, rfl⟩
  · rw [decide_eq_false h, if_pos (show bI false = 0 from rfl), if_neg h]
    exact ⟨_, _, _, _, _, _, _, _, _, _, rfl⟩
/-- the product at the scale 2^-2000 -/
def zmul (x y : Int) : Int := (x * y).sign * ((x.natAbs * y.natAbs / 2 ^ 2000 : Nat) : Int)
theorem mul_val {v w : Nat} (hv : vok v) (hw : vok w) : v * w / 2 ^ 2000 = val (mt v * mt w) (pz v + pz w) := by
  have h1 := reg_facts hv
  have h2 := reg_facts hw
  have e1 := h1.2.1
  have e2 := h2.2.1
  unfold val at *
  have : v * w = mt v * mt w * 2 ^ (pz v + pz w + 2000).toNat * 2 ^ 2000 := by
    conv => lhs; rw [← e1, ← e2]
    rw [Nat.mul_mul_mul_comm, ← Nat.pow_add, Nat.mul_assoc (mt v * mt w), ← Nat.pow_add]
    congr 2; omega
  rw [this]; exact Nat.mul_div_cancel _ (Nat.two_pow_pos _)
theorem zmul_facts {st : ASt} (hI : Inv st) (i j : Nat) : (zmul (zz st i) (zz st j)).natAbs = val (mt (st.2.1 i) * mt (st.2.1 j)) (pz (st.2.1 i) + pz (st.2.1 j)) ∧ (zmul (zz st i) (zz st j)).sign = (mz (st.1 i) (st.2.1 i) * mz (st.1 j) (st.2.1 j)).sign ∧ zmul (zz st i) (zz st j) = (mz (st.1 i) (st.2.1 i) * mz (st.1 j) (st.2.1 j)).sign * ((val (mt (st.2.1 i) * mt (st.2.1 j)) (pz (st.2.1 i) + pz (st.2.1 j)) : Nat) : Int) := by
  have hfi := reg_facts (hI i).1
  have hfj := reg_facts (hI j).1
  have hs : (zz st i * zz st j).sign = (mz (st.1 i) (st.2.1 i) * mz (st.1 j) (st.2.1 j)).sign := by
    rw [Int.sign_mul, Int.sign_mul, zz_sign, zz_sign, mz_sign (hI i).1, mz_sign (hI j).1]
  have e3 : zmul (zz st i) (zz st j) = (mz (st.1 i) (st.2.1 i) * mz (st.1 j) (st.2.1 j)).sign * ((val (mt (st.2.1 i) * mt (st.2.1 j)) (pz (st.2.1 i) + pz (st.2.1 j)) : Nat) : Int) := by
    unfold zmul; rw [zz_abs, zz_abs, mul_val (hI i).1 (hI j).1, hs]
  refine ⟨?_, ?_, e3⟩
  · rw [e3]
    rcases sign_3 (mz (st.1 i) (st.2.1 i) * mz (st.1 j) (st.2.1 j)) with q | q | q
    · rw [q]; exact (sign_mulN (Or.inl rfl)).2
    · rw [q, Int.zero_mul]
      have hm := Int.sign_eq_zero_iff_zero.mp q
      have hm2 : mt (st.2.1 i) * mt (st.2.1 j) = 0 := by
        have := congrArg Int.natAbs hm
        rw [Int.natAbs_mul, mz_abs, mz_abs] at this; exact this
      rw [hm2, show val 0 _ = 0 from Nat.zero_mul _]; rfl
    · rw [q]; exact (sign_mulN (Or.inr rfl)).2
  · rw [e3]
    rcases sign_3 (mz (st.1 i) (st.2.1 i) * mz (st.1 j) (st.2.1 j)) with q | q | q
    · have hne : ¬ val (mt (st.2.1 i) * mt (st.2.1 j)) (pz (st.2.1 i) + pz (st.2.1 j)) = 0 := by
        rw [val_0]; intro z
        have : (mz (st.1 i) (st.2.1 i) * mz (st.1 j) (st.2.1 j)).natAbs = 0 := by rw [Int.natAbs_mul, mz_abs, mz_abs]; exact z
        rw [Int.natAbs_eq_zero.mp this] at q; cases q
      rw [q, (sign_mulN (Or.inl rfl)).1, if_neg hne]
    · rw [q, Int.zero_mul]; rfl
    · have hne : ¬ val (mt (st.2.1 i) * mt (st.2.1 j)) (pz (st.2.1 i) + pz (st.2.1 j)) = 0 := by
        rw [val_0]; intro z
        have : (mz (st.1 i) (st.2.1 i) * mz (st.1 j) (st.2.1 j)).natAbs = 0 := by rw [Int.natAbs_mul, mz_abs, mz_abs]; exact z
        rw [Int.natAbs_eq_zero.mp this] at q; cases q
      rw [q, (sign_mulN (Or.inr rfl)).1, if_neg hne]
theorem mm_lt {a b : Nat} (ha : a < 2 ^ 53) (hb : b < 2 ^ 53) : a * b < 2 ^ 106 := by
  have := Nat.mul_lt_mul'' ha hb
  rwa [← Nat.pow_add] at this
def A_mul (st : ASt) (a1 a2 a3 a4 : Int32) : Int32 × ASt := if tk st a1 a2 a3 a4 then zop st (ix a1) (zmul (zz st (ix a2)) (zz st (ix a3))) (bitsOf a4) else (-1, st)
set_option maxHeartbeats 1000000 in
theorem X_mul_ok {st : ASt} (hI : Inv st) (e1 : Int32) (e2 e3 : Int64) (e4 e5 a1 a2 a3 a4 : Int32) : ∃ j1 j2 j3 j4 j5, f_X_multiply st.2.2.1 st.2.2.2.1 st.2.2.2.2 (xM st) (xP st) e1 e2 e3 e4 e5 a1 a2 a3 a4 = some ((A_mul st a1 a2 a3 a4).1, (A_mul st a1 a2 a3 a4).2.2.2.1, (A_mul st a1 a2 a3 a4).2.2.2.2.1, (A_mul st a1 a2 a3 a4).2.2.2.2.2, xM (A_mul st a1 a2 a3 a4).2, xP (A_mul st a1 a2 a3 a4).2, j1, j2, j3, j4, j5) := by
  unfold f_X_multiply A_mul
  rw [may_ok hI]
  simp only [Option.bind_some]
  by_cases h : tk st a1 a2 a3 a4
  · rw [decide_eq_true h, if_neg (show ¬ bI true = 0 by decide), if_pos h]
    obtain ⟨d, hd, rfl⟩ := okr_nI h.1
    obtain ⟨i, hi, rfl⟩ := okr_nI h.2.1
    obtain ⟨j, hj, rfl⟩ := okr_nI h.2.2.1
    have hfi := reg_facts (hI i).1
    have hfj := reg_facts (hI j).1
    simp only [if_neg (in8 hi), if_neg (in8 hj)]
    simp only [ix, cl8 hi, cl8 hj, cl8 hd]
    rw [show xM st i = lI (mz (st.1 i) (st.2.1 i)) from rfl, show xM st j = lI (mz (st.1 j) (st.2.1 j)) from rfl, show xP st i = iI (pz (st.2.1 i)) from rfl, show xP st j = iI (pz (st.2.1 j)) from rfl, iI_add]
    have ai := mz_abs (st.1 i) (st.2.1 i)
    have aj := mz_abs (st.1 j) (st.2.1 j)
    rw [holdP_ok _ _ _ _ _ (by omega) (by omega)]
    simp only [Option.bind_some]
    obtain ⟨zf1, zf2, -⟩ := zmul_facts hI i j
    have hm := mm_lt hfi.1 hfj.1
    rw [ai, aj, ← zf2]
    obtain ⟨k1, k2, k3, k4, hf⟩ := sum_fin (st := st) hd a4 (z := zmul (zz st i) (zz st j)) (V := mt (st.2.1 i) * mt (st.2.1 j)) (p := pz (st.2.1 i) + pz (st.2.1 j)) (s := false) (by rw [zf1]; exact Rep_self (by omega)) (by omega) (Or.inl rfl) (by omega) (by omega)
    rw [hf]; exact ⟨_, _, _, _, _, rfl⟩
  · rw [decide_eq_false h, if_pos (show bI false = 0 from rfl), if_neg h]
    exact ⟨_, _, _, _, _, rfl⟩
def A_fus (st : ASt) (a1 a2 a3 a4 a5 : Int32) : Int32 × ASt := if tk st a1 a2 a3 a5 ∧ tk st a1 a2 a4 a5 then zop st (ix a1) (zmul (zz st (ix a2)) (zz st (ix a3)) + zz st (ix a4)) (bitsOf a5) else (-1, st)
set_option maxHeartbeats 2000000 in
theorem X_pp_ok {st : ASt} (hI : Inv st) (e1 : Int32) (e2 e3 : Int64) (e4 e5 e6 : Int32) (e7 e8 : Int64) (e9 e10 a1 a2 a3 a4 a5 : Int32) : ∃ j1 j2 j3 j4 j5 j6 j7 j8 j9 j10, f_X_productPlus st.2.2.1 st.2.2.2.1 st.2.2.2.2 (xM st) (xP st) e1 e2 e3 e4 e5 e6 e7 e8 e9 e10 a1 a2 a3 a4 a5 = some ((A_fus st a1 a2 a3 a4 a5).1, (A_fus st a1 a2 a3 a4 a5).2.2.2.1, (A_fus st a1 a2 a3 a4 a5).2.2.2.2.1, (A_fus st a1 a2 a3 a4 a5).2.2.2.2.2, xM (A_fus st a1 a2 a3 a4 a5).2, xP (A_fus st a1 a2 a3 a4 a5).2, j1, j2, j3, j4, j5, j6, j7, j8, j9, j10) := by
  unfold f_X_productPlus A_fus
  rw [may_ok hI, may_ok hI]
  simp only [Option.bind_some]
  by_cases h : tk st a1 a2 a3 a5
  · rw [decide_eq_true h, if_neg (show ¬ bI true = 0 by decide)]
    by_cases h' : tk st a1 a2 a4 a5
    · rw [decide_eq_true h', if_neg (show ¬ bI true = 0 by decide), if_pos (show tk st a1 a2 a3 a5 ∧ tk st a1 a2 a4 a5 from ⟨h, h'⟩)]
      obtain ⟨d, hd, rfl⟩ := okr_nI h.1
      obtain ⟨i, hi, rfl⟩ := okr_nI h.2.1
      obtain ⟨j, hj, rfl⟩ := okr_nI h.2.2.1
      obtain ⟨k, hk, rfl⟩ := okr_nI h'.2.2.1
      have hfi := reg_facts (hI i).1
      have hfj := reg_facts (hI j).1
      have hfk := reg_facts (hI k).1
      simp only [if_neg (in8 hi), if_neg (in8 hj), if_neg (in8 hk)]
      simp only [ix, cl8 hi, cl8 hj, cl8 hd, cl8 hk]
      rw [show xM st i = lI (mz (st.1 i) (st.2.1 i)) from rfl, show xM st j = lI (mz (st.1 j) (st.2.1 j)) from rfl, show xM st k = lI (mz (st.1 k) (st.2.1 k)) from rfl, show xP st i = iI (pz (st.2.1 i)) from rfl, show xP st j = iI (pz (st.2.1 j)) from rfl, show xP st k = iI (pz (st.2.1 k)) from rfl, iI_add]
      have ai := mz_abs (st.1 i) (st.2.1 i)
      have aj := mz_abs (st.1 j) (st.2.1 j)
      have ak := mz_abs (st.1 k) (st.2.1 k)
      rw [holdP_ok _ _ _ _ _ (by omega) (by omega), hold_ok _ _ _ _ _ (by omega) (by omega)]
      simp only [Option.bind_some]
      obtain ⟨zf1, zf2, zf3⟩ := zmul_facts hI i j
      have hm := mm_lt hfi.1 hfj.1
      have s0 : (mz (st.1 i) (st.2.1 i) * mz (st.1 j) (st.2.1 j)).sign = 0 ↔ mt (st.2.1 i) * mt (st.2.1 j) = 0 := by
        rw [Int.sign_eq_zero_iff_zero, ← Int.natAbs_eq_zero, Int.natAbs_mul, ai, aj]
      rw [ai, aj, ak, mz_sign (hI k).1]
      obtain ⟨o, ho, V, p, s, hsel, hR, hV, hs, hp1, hp2, -⟩ := sum_ok (sign_3 (mz (st.1 i) (st.2.1 i) * mz (st.1 j) (st.2.1 j))) (sgn_3 (st.1 k) (st.2.1 k)) s0 (by rw [sgn_0, hfk.2.2.2.2.1]) (by omega : mt (st.2.1 i) * mt (st.2.1 j) < 2 ^ 110) (by omega : mt (st.2.1 k) < 2 ^ 110) (p1 := pz (st.2.1 i) + pz (st.2.1 j)) (p2 := pz (st.2.1 k)) (by omega) (by omega)
      rw [ho]
      simp only [Option.bind_some]
      have hz : sumZ (mz (st.1 i) (st.2.1 i) * mz (st.1 j) (st.2.1 j)).sign (sgn (st.1 k) (st.2.1 k)) (pz (st.2.1 i) + pz (st.2.1 j)) (pz (st.2.1 k)) (mt (st.2.1 i) * mt (st.2.1 j)) (mt (st.2.1 k)) = zmul (zz st i) (zz st j) + zz st k := by
        unfold sumZ
        have h2 : mt (st.2.1 k) * 2 ^ (pz (st.2.1 k) + 2000).toNat = st.2.1 k := hfk.2.1
        rw [h2, sgn_zz, zf3]; rfl
      rw [hz] at hsel hR
      obtain ⟨k1, k2, k3, k4, hf⟩ := sum_fin (st := st) hd a5 hR hV hs hp1 hp2
      rcases hsel with ⟨q1, q2, q3, q4, q5, q6⟩ | ⟨q1, q2, q3, q4, q5, q6⟩
      · rw [if_pos q1, q2, q3, q4, q5, q6, hf]; exact ⟨_, _, _, _, _, _, _, _, _, _, rfl⟩
      · rw [if_neg (by rw [q1]; decide), q2, q3, q4, q5, q6, hf]; exact ⟨_, _, _, _, _, _, _, _, _, _, rfl⟩
    · rw [decide_eq_false h', if_pos (show bI false = 0 from rfl), if_neg (fun q => h' q.2)]
      exact ⟨_, _, _, _, _, _, _, _, _, _, rfl⟩
  · rw [decide_eq_false h, if_pos (show bI false = 0 from rfl), if_neg (fun q => h q.1)]
    exact ⟨_, _, _, _, _, _, _, _, _, _, rfl⟩
def A_copy (st : ASt) (a1 a2 a3 : Int32) : Int32 × ASt := if okr a1 ∧ okr a2 then zop st (ix a1) (zz st (ix a2)) (bitsOf a3) else (-1, st)
set_option maxHeartbeats 1000000 in
theorem X_copy_ok {st : ASt} (hI : Inv st) (e1 : Int32) (e2 e3 : Int64) (e4 e5 a1 a2 a3 : Int32) : ∃ j1 j2 j3 j4 j5, f_X_copy st.2.2.1 st.2.2.2.1 st.2.2.2.2 (xM st) (xP st) e1 e2 e3 e4 e5 a1 a2 a3 = some ((A_copy st a1 a2 a3).1, (A_copy st a1 a2 a3).2.2.2.1, (A_copy st a1 a2 a3).2.2.2.2.1, (A_copy st a1 a2 a3).2.2.2.2.2, xM (A_copy st a1 a2 a3).2, xP (A_copy st a1 a2 a3).2, j1, j2, j3, j4, j5) := by
  unfold f_X_copy A_copy
  rw [isReg_ok, isReg_ok]
  simp only [Option.bind_some]
  by_cases h1 : okr a1
  · rw [decide_eq_true h1, if_neg (show ¬ bI true = 0 by decide)]
    by_cases h2 : okr a2
    · rw [decide_eq_true h2, if_neg (show ¬ bI true = 0 by decide), if_pos (show okr a1 ∧ okr a2 from ⟨h1, h2⟩)]
      obtain ⟨d, hd, rfl⟩ := okr_nI h1
      obtain ⟨i, hi, rfl⟩ := okr_nI h2
      have hfi := reg_facts (hI i).1
      simp only [if_neg (in8 hi)]
      simp only [ix, cl8 hi, cl8 hd]
      rw [show xM st i = lI (mz (st.1 i) (st.2.1 i)) from rfl, show xP st i = iI (pz (st.2.1 i)) from rfl]
      have ai := mz_abs (st.1 i) (st.2.1 i)
      rw [hold_ok _ _ _ _ _ (by omega) (by omega)]
      simp only [Option.bind_some]
      rw [ai, mz_sign (hI i).1, ← zz_sign]
      obtain ⟨k1, k2, k3, k4, hf⟩ := sum_fin (st := st) hd a3 (z := zz st i) (V := mt (st.2.1 i)) (p := pz (st.2.1 i)) (s := false) (by rw [zz_abs]; have := Rep_self (V := mt (st.2.1 i)) (q := (pz (st.2.1 i) + 2000).toNat) (p := pz (st.2.1 i)) (by omega); rw [show mt (st.2.1 i) * 2 ^ (pz (st.2.1 i) + 2000).toNat = st.2.1 i from hfi.2.1] at this; exact this) (by omega) (Or.inl rfl) (by omega) (by omega)
      rw [hf]; exact ⟨_, _, _, _, _, rfl⟩
    · rw [decide_eq_false h2, if_pos (show bI false = 0 from rfl), if_neg (fun q => h2 q.2)]
      exact ⟨_, _, _, _, _, rfl⟩
  · rw [decide_eq_false h1, if_pos (show bI false = 0 from rfl), if_neg (fun q => h1 q.1)]
    exact ⟨_, _, _, _, _, rfl⟩
