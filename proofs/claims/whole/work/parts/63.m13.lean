/-! PURE: X's fuse, scale, set, compare, whole, count -/
theorem X_fuse_ok {st : ASt} (hI : Inv st) (e1 : Int32) (e2 e3 : Int64) (e4 e5 e6 : Int32) (e7 e8 : Int64) (e9 e10 a1 a2 a3 a4 : Int32) : ∃ j1 j2 j3 j4 j5 j6 j7 j8 j9 j10, f_X_fuse st.2.2.1 st.2.2.2.1 st.2.2.2.2 (xM st) (xP st) e1 e2 e3 e4 e5 e6 e7 e8 e9 e10 a1 a2 a3 a4 = some ((A_fus st a1 a2 a3 a4 0).1, (A_fus st a1 a2 a3 a4 0).2.2.2.1, (A_fus st a1 a2 a3 a4 0).2.2.2.2.1, (A_fus st a1 a2 a3 a4 0).2.2.2.2.2, xM (A_fus st a1 a2 a3 a4 0).2, xP (A_fus st a1 a2 a3 a4 0).2, j1, j2, j3, j4, j5, j6, j7, j8, j9, j10) := by
  obtain ⟨j1, j2, j3, j4, j5, j6, j7, j8, j9, j10, h⟩ := X_pp_ok hI e1 e2 e3 e4 e5 e6 e7 e8 e9 e10 a1 a2 a3 a4 0
  refine ⟨j1, j2, j3, j4, j5, j6, j7, j8, j9, j10, ?_⟩
  unfold f_X_fuse
  rw [h]; rfl
theorem X_fuseN_ok {st : ASt} (hI : Inv st) (e1 : Int32) (e2 e3 : Int64) (e4 e5 e6 : Int32) (e7 e8 : Int64) (e9 e10 a1 a2 a3 a4 : Int32) : ∃ j1 j2 j3 j4 j5 j6 j7 j8 j9 j10, f_X_fuseNarrow st.2.2.1 st.2.2.2.1 st.2.2.2.2 (xM st) (xP st) e1 e2 e3 e4 e5 e6 e7 e8 e9 e10 a1 a2 a3 a4 = some ((A_fus st a1 a2 a3 a4 1).1, (A_fus st a1 a2 a3 a4 1).2.2.2.1, (A_fus st a1 a2 a3 a4 1).2.2.2.2.1, (A_fus st a1 a2 a3 a4 1).2.2.2.2.2, xM (A_fus st a1 a2 a3 a4 1).2, xP (A_fus st a1 a2 a3 a4 1).2, j1, j2, j3, j4, j5, j6, j7, j8, j9, j10) := by
  obtain ⟨j1, j2, j3, j4, j5, j6, j7, j8, j9, j10, h⟩ := X_pp_ok hI e1 e2 e3 e4 e5 e6 e7 e8 e9 e10 a1 a2 a3 a4 1
  refine ⟨j1, j2, j3, j4, j5, j6, j7, j8, j9, j10, ?_⟩
  unfold f_X_fuseNarrow
  rw [h]; rfl
def scl (v : Nat) (n : Int) : Nat := v * 2 ^ (n + 500).toNat / 2 ^ 500
theorem scl_val {v : Nat} (hv : vok v) {n : Int} (h1 : -500 ≤ n) (h2 : n ≤ 500) : scl v n = val (mt v) (pz v + n) := by
  have hf := reg_facts hv
  have e := hf.2.1
  unfold scl val at *
  have : v * 2 ^ (n + 500).toNat = mt v * 2 ^ (pz v + n + 2000).toNat * 2 ^ 500 := by
    conv => lhs; rw [← e]
    rw [Nat.mul_assoc, Nat.mul_assoc, ← Nat.pow_add, ← Nat.pow_add]
    congr 2; omega
  rw [this]; exact Nat.mul_div_cancel _ (Nat.two_pow_pos _)
abbrev sok (a1 a2 a3 : Int32) : Prop := okr a1 ∧ okr a2 ∧ -500 ≤ a3.toInt ∧ a3.toInt ≤ 500
def A_scale (st : ASt) (a1 a2 a3 : Int32) : Int32 × ASt := if sok a1 a2 a3 then aop st (ix a1) (zz st (ix a2)).sign (scl (st.2.1 (ix a2)) a3.toInt) false 53 else (-1, st)
theorem lt_lit {a : Int32} {n : Int} (h1 : -2147483648 ≤ n) (h2 : n < 2147483648) : (a < iI n ↔ a.toInt < n) ∧ (a ≤ iI n ↔ a.toInt ≤ n) ∧ (iI n ≤ a ↔ n ≤ a.toInt) := by
  refine ⟨?_, ?_, ?_⟩
  · rw [Int32.lt_iff_toInt_lt, iI_t h1 h2]
  · rw [Int32.le_iff_toInt_le, iI_t h1 h2]
  · rw [Int32.le_iff_toInt_le, iI_t h1 h2]
theorem iI_self (a : Int32) : iI a.toInt = a := Int32.ofInt_toInt a
theorem lI_self (a : Int64) : lI a.toInt = a := Int64.ofInt_toInt a
set_option maxHeartbeats 1000000 in
theorem X_scale_ok {st : ASt} (hI : Inv st) (e1 : Int32) (e2 e3 : Int64) (e4 e5 a1 a2 a3 : Int32) : ∃ j1 j2 j3 j4 j5, f_X_scale st.2.2.1 st.2.2.2.1 st.2.2.2.2 (xM st) (xP st) e1 e2 e3 e4 e5 a1 a2 a3 = some ((A_scale st a1 a2 a3).1, (A_scale st a1 a2 a3).2.2.2.1, (A_scale st a1 a2 a3).2.2.2.2.1, (A_scale st a1 a2 a3).2.2.2.2.2, xM (A_scale st a1 a2 a3).2, xP (A_scale st a1 a2 a3).2, j1, j2, j3, j4, j5) := by
  unfold f_X_scale A_scale
  rw [isReg_ok, isReg_ok]
  simp only [Option.bind_some]
  have l1 : a3 < (-500 : Int32) ↔ a3.toInt < -500 := by rw [show (-500 : Int32) = iI (-500) by decide]; exact (lt_lit (a := a3) (n := -500) (by decide) (by decide)).1
  have l2 : a3 ≤ (500 : Int32) ↔ a3.toInt ≤ 500 := by rw [show (500 : Int32) = iI (500) by decide]; exact (lt_lit (a := a3) (n := 500) (by decide) (by decide)).2.1
  by_cases h1 : okr a1
  · rw [decide_eq_true h1, if_neg (show ¬ bI true = 0 by decide)]
    by_cases h2 : okr a2
    · rw [decide_eq_true h2, if_neg (show ¬ bI true = 0 by decide)]
      by_cases h3 : a3.toInt < -500
      · rw [if_pos (l1.mpr h3), if_neg (show ¬ sok a1 a2 a3 from fun q => by have := q.2.2.1; omega)]
        exact ⟨_, _, _, _, _, rfl⟩
      · rw [if_neg (fun q => h3 (l1.mp q))]
        by_cases h4 : a3.toInt ≤ 500
        · rw [if_pos (l2.mpr h4), if_pos (show sok a1 a2 a3 from ⟨h1, h2, by omega, h4⟩)]
          obtain ⟨d, hd, rfl⟩ := okr_nI h1
          obtain ⟨i, hi, rfl⟩ := okr_nI h2
          have hfi := reg_facts (hI i).1
          simp only [if_neg (in8 hi)]
          simp only [ix, cl8 hi, cl8 hd]
          rw [show xM st i = lI (mz (st.1 i) (st.2.1 i)) from rfl, show xP st i = iI (pz (st.2.1 i)) from rfl]
          have ai := mz_abs (st.1 i) (st.2.1 i)
          rw [show iI (pz (st.2.1 i)) + a3 = iI (pz (st.2.1 i) + a3.toInt) by rw [← iI_add, iI_self]]
          rw [hold_ok _ _ _ _ _ (by omega) (by omega)]
          simp only [Option.bind_some]
          rw [ai, mz_sign (hI i).1, ← zz_sign, scl_val (hI i).1 (by omega) h4]
          obtain ⟨k1, k2, k3, k4, hf⟩ := fin_ok (st := st) hd (sg := (zz st i).sign) (p := pz (st.2.1 i) + a3.toInt) (V := mt (st.2.1 i)) (N := val (mt (st.2.1 i)) (pz (st.2.1 i) + a3.toInt)) (S := false) (s := false) 0 (sign_3 _) (fun q => by rw [zz_sign, sgn_0] at q; exact hfi.2.2.2.2.1.mpr q) (by omega) (Rep_self (by omega)) (Or.inl ⟨rfl, rfl⟩) (by omega) (by omega)
          rw [hf]; exact ⟨_, _, _, _, _, rfl⟩
        · rw [if_neg (fun q => h4 (l2.mp q)), if_neg (show ¬ sok a1 a2 a3 from fun q => h4 q.2.2.2)]
          exact ⟨_, _, _, _, _, rfl⟩
    · rw [decide_eq_false h2, if_pos (show bI false = 0 from rfl), if_neg (show ¬ sok a1 a2 a3 from fun q => h2 q.2.1)]
      exact ⟨_, _, _, _, _, rfl⟩
  · rw [decide_eq_false h1, if_pos (show bI false = 0 from rfl), if_neg (show ¬ sok a1 a2 a3 from fun q => h1 q.1)]
    exact ⟨_, _, _, _, _, rfl⟩
abbrev set_in (a1 : Int32) (a2 : Int64) (a3 : Int32) : Prop := okr a1 ∧ -9007199254740992 < a2.toInt ∧ a2.toInt < 9007199254740992 ∧ -250 ≤ a3.toInt ∧ a3.toInt ≤ 250
def A_set (st : ASt) (a1 : Int32) (a2 : Int64) (a3 : Int32) : Int32 × ASt :=
  if set_in a1 a2 a3 then
    (if inr (val a2.toInt.natAbs a3.toInt) then (0, va_up st.1 (ix a1) (decide (a2.toInt < 0)), va_up st.2.1 (ix a1) (val a2.toInt.natAbs a3.toInt), st.2.2.1, st.2.2.2.1, st.2.2.2.2)
     else (-2, st.1, st.2.1, st.2.2.1, st.2.2.2.1, st.2.2.2.2 + 1))
  else (-1, st)
theorem l_lit {a : Int64} {n : Int} (h1 : -9223372036854775808 ≤ n) (h2 : n < 9223372036854775808) : (lg_cmp a (lI n) ≤ 0 ↔ a.toInt ≤ n) ∧ (0 ≤ lg_cmp a (lI n) ↔ n ≤ a.toInt) ∧ (lg_cmp a (lI n) < 0 ↔ a.toInt < n) ∧ (0 < lg_cmp a (lI n) ↔ n < a.toInt) ∧ (lg_cmp a (lI n) = 0 ↔ a.toInt = n) := by
  refine ⟨?_, ?_, ?_, ?_, ?_⟩
  · rw [lg_cmp_le, Int64.le_iff_toInt_le, lI_t h1 h2]
  · rw [lg_cmp_ge, Int64.le_iff_toInt_le, lI_t h1 h2]
  · rw [lg_cmp_lt, Int64.lt_iff_toInt_lt, lI_t h1 h2]
  · rw [lg_cmp_gt, Int64.lt_iff_toInt_lt, lI_t h1 h2]
  · rw [lg_cmp_eq, ← Int64.toInt_inj, lI_t h1 h2]
theorem X_set_ok (st : ASt) (a1 : Int32) (a2 : Int64) (a3 : Int32) : f_X_set st.2.2.2.2 (xM st) (xP st) a1 a2 a3 = some ((A_set st a1 a2 a3).1, (A_set st a1 a2 a3).2.2.2.2.2, xM (A_set st a1 a2 a3).2, xP (A_set st a1 a2 a3).2) := by
  unfold f_X_set A_set
  rw [isReg_ok]
  simp only [Option.bind_some]
  have l1 : lg_cmp a2 (-9007199254740992 : Int64) ≤ 0 ↔ a2.toInt ≤ -9007199254740992 := by rw [show (-9007199254740992 : Int64) = lI (-9007199254740992) by decide +kernel]; exact (l_lit (a := a2) (n := -9007199254740992) (by decide) (by decide)).1
  have l2 : 0 ≤ lg_cmp a2 (9007199254740992 : Int64) ↔ 9007199254740992 ≤ a2.toInt := by rw [show (9007199254740992 : Int64) = lI (9007199254740992) by decide +kernel]; exact (l_lit (a := a2) (n := 9007199254740992) (by decide) (by decide)).2.1
  have l3 : a3 < (-250 : Int32) ↔ a3.toInt < -250 := by rw [show (-250 : Int32) = iI (-250) by decide]; exact (lt_lit (a := a3) (n := -250) (by decide) (by decide)).1
  have l4 : a3 ≤ (250 : Int32) ↔ a3.toInt ≤ 250 := by rw [show (250 : Int32) = iI (250) by decide]; exact (lt_lit (a := a3) (n := 250) (by decide) (by decide)).2.1
  by_cases h1 : okr a1
  · rw [decide_eq_true h1, if_neg (show ¬ bI true = 0 by decide)]
    by_cases c1 : a2.toInt ≤ -9007199254740992
    · rw [if_pos (l1.mpr c1), if_neg (show ¬ set_in a1 a2 a3 from fun q => by have := q.2.1; omega)]
    · rw [if_neg (fun q => c1 (l1.mp q))]
      by_cases c2 : 9007199254740992 ≤ a2.toInt
      · rw [if_pos (l2.mpr c2), if_neg (show ¬ set_in a1 a2 a3 from fun q => by have := q.2.2.1; omega)]
      · rw [if_neg (fun q => c2 (l2.mp q))]
        by_cases c3 : a3.toInt < -250
        · rw [if_pos (l3.mpr c3), if_neg (show ¬ set_in a1 a2 a3 from fun q => by have := q.2.2.2.1; omega)]
        · rw [if_neg (fun q => c3 (l3.mp q))]
          by_cases c4 : a3.toInt ≤ 250
          · rw [if_pos (l4.mpr c4), if_pos (show set_in a1 a2 a3 from ⟨h1, by omega, by omega, by omega, c4⟩)]
            obtain ⟨d, hd, rfl⟩ := okr_nI h1
            rw [ix, cl8 hd]
            have hq : a2.toInt = (if decide (a2.toInt < 0) = true then -(a2.toInt.natAbs : Int) else a2.toInt.natAbs) := by
              by_cases z : a2.toInt < 0
              · rw [decide_eq_true z, if_pos rfl]; omega
              · rw [decide_eq_false z, if_neg (by decide)]; omega
            have P := put_ok (lo := 0) (ro := 0) (rk := st.2.2.2.2) (Mf := xM st) (Pf := xP st) hd (ng := decide (a2.toInt < 0)) (n := a2.toInt.natAbs) (e := a3.toInt) (c := 0) (by omega) (by omega) (by omega) (Or.inr (Or.inl rfl))
            rw [← hq, iI_self, lI_self] at P
            unfold f_X_put at P
            cases hn : f_X_isNumber a2 a3 with
            | none => rw [hn] at P; simp only [Option.bind_none] at P; split at P <;> cases P
            | some w =>
              rw [hn] at P
              simp only [Option.bind_some] at P ⊢
              by_cases hw : w = 0
              · rw [if_pos hw] at P ⊢
                by_cases hi : inr (val a2.toInt.natAbs a3.toInt)
                · rw [if_pos hi] at P; cases P
                · rw [if_neg hi]; rfl
              · rw [if_neg hw] at P ⊢
                by_cases hi : inr (val a2.toInt.natAbs a3.toInt)
                · rw [if_pos hi] at P ⊢
                  obtain ⟨q, hq1, hq2⟩ := hbd P
                  rw [hq1]
                  rw [if_pos (show iI 0 = 0 from rfl)] at hq2
                  have := Option.some.inj hq2
                  simp only [Prod.mk.injEq] at this
                  obtain ⟨-, -, -, -, m1, m2⟩ := this
                  simp only [Option.bind_some]
                  rw [m1, m2, clM_up, clP_up]
                · rw [if_neg hi] at P
                  obtain ⟨q, hq1, hq2⟩ := hbd P
                  rw [if_pos (show iI 0 = 0 from rfl)] at hq2
                  cases hq2
          · rw [if_neg (fun q => c4 (l4.mp q)), if_neg (show ¬ set_in a1 a2 a3 from fun q => c4 q.2.2.2.2)]
  · rw [decide_eq_false h1, if_pos (show bI false = 0 from rfl), if_neg (show ¬ set_in a1 a2 a3 from fun q => h1 q.1)]
