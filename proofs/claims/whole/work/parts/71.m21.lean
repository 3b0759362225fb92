/-! PURE: X's cubeRoot -/
theorem ord_cmp {C V B q qB : Nat} {s : Bool} (hV : V = C / 2 ^ q) (hs : s = decide (C % 2 ^ q ≠ 0)) (b1 : bl V = 126) (b2 : bl B = 126) : (ordv ((q : Int) - 2000) V s ((qB : Int) - 2000) B false < 0 ↔ C < B * 2 ^ qB) ∧ (0 < ordv ((q : Int) - 2000) V s ((qB : Int) - 2000) B false ↔ B * 2 ^ qB < C) := by
  have hp := Nat.two_pow_pos q
  have dm := Nat.div_add_mod C (2 ^ q)
  have hm := Nat.mod_lt C hp
  have hB0 : B ≠ 0 := fun z => by rw [z] at b2; simp [bl] at b2
  have blB := bl_mul B qB hB0
  have blC : bl C = 126 + q := by
    have := bl_div C q; rw [← hV, b1] at this; omega
  unfold ordv
  by_cases h : (q : Int) - 2000 = (qB : Int) - 2000
  · have e : q = qB := by omega
    subst e
    rw [if_pos rfl]
    rw [← hV] at dm
    generalize 2 ^ q = P at *
    have hcomm : P * V = V * P := Nat.mul_comm _ _
    rcases Nat.lt_trichotomy V B with c | c | c
    · have h1 : (V + 1) * P ≤ B * P := Nat.mul_le_mul_right _ c
      rw [Nat.add_mul, Nat.one_mul] at h1
      rw [if_neg (by omega), if_pos c]
      constructor <;> constructor <;> intro z <;> omega
    · subst c
      rw [if_pos rfl]
      by_cases z : C % P = 0
      · have hsf : s = false := by rw [hs]; exact decide_eq_false (fun y => y z)
        rw [hsf, if_pos rfl]
        constructor <;> constructor <;> intro y <;> omega
      · have hst : s = true := by rw [hs]; exact decide_eq_true z
        rw [hst, if_neg (by decide), if_pos rfl]
        constructor <;> constructor <;> intro y <;> omega
    · have h1 : (B + 1) * P ≤ V * P := Nat.mul_le_mul_right _ c
      rw [Nat.add_mul, Nat.one_mul] at h1
      rw [if_neg (by omega), if_neg (by omega)]
      constructor <;> constructor <;> intro z <;> omega
  · rw [if_neg h]
    by_cases c : q < qB
    · have : C < B * 2 ^ qB := bl_cmp (by omega)
      rw [if_pos (by omega)]
      constructor <;> constructor <;> intro z <;> omega
    · have : B * 2 ^ qB < C := bl_cmp (by omega)
      rw [if_neg (by omega)]
      constructor <;> constructor <;> intro z <;> omega
/-- a number that may be lifted: what lifting gives -/
theorem lift_rep {C V : Nat} {p : Int} {s : Bool} (hR : Rep C false V p s) (hV : V < 2 ^ 128) (h0 : V ≠ 0) (hs : s = false ∨ 126 ≤ bl V) (hp1 : -1840 ≤ p) (hp2 : p < 5000) : ∃ (V' q : Nat) (s' : Bool), f_E_lift (hW V) (lW V) (iI p) (bI s) = some (hW V', lW V', iI ((q : Int) - 2000), bI s') ∧ V' = C / 2 ^ q ∧ s' = decide (C % 2 ^ q ≠ 0) ∧ bl V' = 126 ∧ q < 7100 := by
  obtain ⟨q0, hq0, e1, e2⟩ := hR
  rw [Bool.false_or] at e2
  have hb := bl128 hV
  by_cases h : bl V ≤ 126
  · refine ⟨V * 2 ^ (126 - bl V), q0 - (126 - bl V), s, ?_, ?_, ?_, (lift_bl h0 h).1, by omega⟩
    · rw [lift_up _ h, show p - (126 - (bl V : Int)) = ((q0 - (126 - bl V) : Nat) : Int) - 2000 by omega]
    · rcases hs with z | z
      · have hm : C % 2 ^ q0 = 0 := by rw [z] at e2; simpa using e2.symm
        have hC := div_mul_pow hm
        rw [← e1] at hC
        rw [hC, mul_pow_div _ (by omega)]; congr 2; omega
      · rw [show 126 - bl V = 0 by omega, Nat.pow_zero, Nat.mul_one, Nat.sub_zero]; exact e1
    · rcases hs with z | z
      · have hm : C % 2 ^ q0 = 0 := by rw [z] at e2; simpa using e2.symm
        have hC := div_mul_pow hm
        rw [hC, mul_pow_mod _ (by omega), z]; rfl
      · rw [show 126 - bl V = 0 by omega, Nat.sub_zero]; exact e2
  · refine ⟨V / 2 ^ (bl V - 126), q0 + (bl V - 126), s || decide (V % 2 ^ (bl V - 126) ≠ 0), ?_, ?_, ?_, ?_, by omega⟩
    · rw [lift_dn hV (by omega), show p + ((bl V : Int) - 126) = ((q0 + (bl V - 126) : Nat) : Int) - 2000 by omega]
    · rw [e1, cut_div]
    · rw [e2, e1, cut_mod, ← Bool.decide_or, decide_eq_decide]
      have hp := Nat.two_pow_pos q0
      constructor
      · rintro (z | z)
        · omega
        · have := Nat.mul_pos hp (Nat.pos_of_ne_zero z); omega
      · intro z
        by_cases y : C % 2 ^ q0 = 0
        · right; intro w; rw [w, Nat.mul_zero] at z; omega
        · exact Or.inl y
    · rw [bl_div]; omega
def cubev (n : Nat) (p : Int) : Nat := n * n * n * 2 ^ (3 * p + 2000).toNat
theorem cube_parts {n : Nat} (hn : n ≤ 2 ^ 53) : (jshl (hW (n * n)) (11 : Int32) ||| jushr (lW (n * n)) (53 : Int32)) = lN (n * n / 2 ^ 53) ∧ lW (n * n) &&& (9007199254740991 : Int64) = lN (n * n % 2 ^ 53) ∧ n * n / 2 ^ 53 ≤ 2 ^ 53 := by
  have h1 : n * n ≤ 2 ^ 53 * 2 ^ 53 := Nat.mul_le_mul hn hn
  have l := lW_lt (n * n)
  unfold hW lW
  generalize n * n = s at *
  refine ⟨?_, ?_, by omega⟩
  · rw [show (11 : Int32) = iI 11 from rfl, show (53 : Int32) = iI 53 from rfl, jshl_i _ (by decide) (by decide), jushr_i l (by decide) (by decide)]
    show lN (s / 2 ^ 64 * 2 ^ 11) ||| lN (s % 2 ^ 64 / 2 ^ 53) = _
    rw [g_or (k := 11) rfl (by omega) (by omega)]
    exact congrArg lN (by omega)
  · rw [show (9007199254740991 : Int64) = lN (2 ^ 53 - 1) from rfl, wb_mask l (by decide)]
    exact congrArg lN (by omega)
theorem nsg (a m : Nat) : ((a : Int)).sign * ((a * m : Nat) : Int) = ((a * m : Nat) : Int) := by
  by_cases h : a = 0
  · subst h; simp
  · rw [Int.sign_eq_one_of_pos (by omega), Int.one_mul]
theorem nsg0 (a : Nat) : ((a : Int)).sign = 0 ↔ a = 0 := by
  rw [Int.sign_eq_zero_iff_zero]; omega
theorem nsg1 (a : Nat) : 0 ≤ ((a : Int)).sign := by
  rw [Int.sign_nonneg_iff]; omega
theorem cube_sum {n : Nat} {p : Int} (hp1 : -160 < p) : sumZ ((n * n / 2 ^ 53 * n : Nat) : Int).sign ((n * n % 2 ^ 53 * n : Nat) : Int).sign (3 * p + 53) (3 * p) (n * n / 2 ^ 53 * n) (n * n % 2 ^ 53 * n) = (cubev n p : Int) := by
  unfold sumZ cubev
  rw [nsg, nsg]
  have e : (3 * p + 53 + 2000).toNat = 53 + (3 * p + 2000).toNat := by omega
  rw [e]
  have h := Nat.div_add_mod (n * n) (2 ^ 53)
  generalize (3 * p + 2000).toNat = q
  generalize n * n / 2 ^ 53 = U at *
  generalize n * n % 2 ^ 53 = L at *
  rw [← h, ← Int.natCast_add]
  congr 1
  rw [Nat.pow_add, Nat.add_mul, Nat.add_mul]
  congr 1
  ac_rfl
/-- the order of a cube and a register, all in plain numbers -/
theorem cube_ord {C V v B : Nat} {p pv : Int} {s : Bool} (hR : Rep C false V p s) (hV : V < 2 ^ 128) (h0 : V ≠ 0) (hs : s = false ∨ 126 ≤ bl V) (hp1 : -1840 ≤ p) (hp2 : p < 5000) (hB : B ≠ 0) (hB2 : B < 2 ^ 53) (q1 : -152 ≤ pv) (q2 : pv ≤ 47) (hv : v = val B pv) : ∃ (r : Int) (j1 j2 : Int64) (j3 j4 : Int32) (j5 j6 : Int64) (j7 j8 : Int32), f_E_sizeOrder (hW V) (lW V) (iI p) (bI s) (hW B) (lW B) (iI pv) (bI false) = some (iI r, j1, j2, j3, j4, j5, j6, j7, j8) ∧ (r < 0 ↔ C < v) ∧ (0 < r ↔ v < C) ∧ -1 ≤ r ∧ r ≤ 1 := by
  obtain ⟨V', q, s', e1, e2, e3, e4, e5⟩ := lift_rep hR hV h0 hs hp1 hp2
  have hb : bl B ≤ 53 := bl_le_iff.mpr hB2
  have hb0 := bl_pos hB
  obtain ⟨l1, l2⟩ := lift_bl hB (by omega : bl B ≤ 126)
  have L := lift_up (V := B) (p := pv) (bI false) (by omega)
  obtain ⟨qB, hqB⟩ : ∃ q : Nat, (q : Int) = pv - (126 - bl B) + 2000 := ⟨(pv - (126 - bl B) + 2000).toNat, by omega⟩
  rw [show pv - (126 - (bl B : Int)) = (qB : Int) - 2000 by omega] at L
  have hvv : v = B * 2 ^ (126 - bl B) * 2 ^ qB := by
    rw [hv]; unfold val; rw [Nat.mul_assoc, ← Nat.pow_add]; congr 2; omega
  have hV' : V' < 2 ^ 127 := bl_le_iff.mp (by omega)
  generalize B * 2 ^ (126 - bl B) = B' at *
  have hB' : B' < 2 ^ 127 := by omega
  have S := size_ok e1 L hV' hB' (by omega) (by omega) (by omega) (by omega)
  obtain ⟨o1, o2⟩ := ord_cmp (qB := qB) e2 e3 e4 l1
  rw [← hvv] at o1 o2
  have hb1 : -1 ≤ ordv ((q : Int) - 2000) V' s' ((qB : Int) - 2000) B' false ∧ ordv ((q : Int) - 2000) V' s' ((qB : Int) - 2000) B' false ≤ 1 := by
    unfold ordv; split <;> (try split) <;> (try split) <;> (try split) <;> decide
  exact ⟨_, _, _, _, _, _, _, _, _, S, o1, o2, hb1.1, hb1.2⟩
theorem cubev_0 {n : Nat} {p : Int} (h : 0 < n) : cubev n p ≠ 0 := by
  unfold cubev
  exact Nat.ne_of_gt (Nat.mul_pos (Nat.mul_pos (Nat.mul_pos h h) h) (Nat.two_pow_pos _))
theorem rep_0 {C V : Nat} {p : Int} {s : Bool} (hR : Rep C false V p s) (hC : C ≠ 0) (hs : s = false ∨ 126 ≤ bl V) : V ≠ 0 := by
  intro z
  obtain ⟨q, -, e1, e2⟩ := hR
  rcases hs with y | y
  · rw [y] at e2
    have hm : C % 2 ^ q = 0 := by simpa using e2.symm
    have := div_mul_pow hm
    rw [← e1, z, Nat.zero_mul] at this
    exact hC this
  · rw [z] at y; simp [bl] at y
set_option maxHeartbeats 1000000 in
theorem cubeO_ok {st : ASt} (hI : Inv st) {i n : Nat} {p : Int} (hi : i < 8) (v0 : st.2.1 i ≠ 0) (hn0 : 0 < n) (hn : n ≤ 2 ^ 53) (hp1 : -160 < p) (hp2 : p < 60) (c1 : Int32) (c2 c3 : Int64) (c4 c5 c6 : Int32) (c7 c8 : Int64) (c9 c10 c11 : Int32) (c12 c13 : Int64) (c14 c15 : Int32) : ∃ (r : Int) (j1 : Int32) (j2 j3 : Int64) (j4 j5 j6 : Int32) (j7 j8 : Int64) (j9 j10 j11 : Int32) (j12 j13 : Int64) (j14 j15 : Int32), f_X_cubeOrder (xM st) (xP st) c1 c2 c3 c4 c5 c6 c7 c8 c9 c10 c11 c12 c13 c14 c15 (lN n) (iI p) (nI i) = some (iI r, j1, j2, j3, j4, j5, j6, j7, j8, j9, j10, j11, j12, j13, j14, j15) ∧ (r < 0 ↔ cubev n p < st.2.1 i) ∧ (0 < r ↔ st.2.1 i < cubev n p) ∧ -1 ≤ r ∧ r ≤ 1 := by
  have hv := (hI i).1
  have hf := reg_facts hv
  have ai := mz_abs (st.1 i) (st.2.1 i)
  unfold f_X_cubeOrder
  obtain ⟨k1, k2, k3⟩ := cube_parts hn
  have hL : n * n % 2 ^ 53 < 2 ^ 53 := Nat.mod_lt _ (by decide)
  have CS := cube_sum (n := n) hp1
  have H1 := holdP_ok c1 c2 c3 c4 c5 (m := (n : Int)) (n := (n : Int)) (p := 0) (by simp; omega) (by simp; omega)
  rw [Int.natAbs_natCast, lI_lN, show iI 0 = (0 : Int32) from rfl] at H1
  rw [H1, Option.bind_some]
  simp only []
  rw [k1, k2, show (3 : Int32) = iI 3 from rfl, show (53 : Int32) = iI 53 from rfl, iI_mul, iI_add]
  generalize n * n / 2 ^ 53 = U at *
  generalize n * n % 2 ^ 53 = L at *
  have bU : U * n ≤ 2 ^ 53 * 2 ^ 53 := Nat.mul_le_mul k3 hn
  have bL : L * n ≤ 2 ^ 53 * 2 ^ 53 := Nat.mul_le_mul (by omega) hn
  have H2 := fun x1 x2 x3 x4 x5 => holdP_ok x1 x2 x3 x4 x5 (m := (U : Int)) (n := (n : Int)) (p := 3 * p + 53) (by simp; omega) (by simp; omega)
  have H3 := fun x1 x2 x3 x4 x5 => holdP_ok x1 x2 x3 x4 x5 (m := (L : Int)) (n := (n : Int)) (p := 3 * p) (by simp; omega) (by simp; omega)
  simp only [Int.natAbs_natCast, lI_lN] at H2 H3
  rw [H2, Option.bind_some]
  rw [H3, Option.bind_some, if_neg (in8 hi), if_neg (in8 hi), cl8 hi]
  rw [show xM st i = lI (mz (st.1 i) (st.2.1 i)) from rfl, show xP st i = iI (pz (st.2.1 i)) from rfl, jabs_ok (by omega) (by omega), ai]
  have H4 := hold_ok c11 c12 c13 c14 c15 (m := (mt (st.2.1 i) : Int)) (p := pz (st.2.1 i)) (by omega) (by omega)
  rw [lI_lN, Int.natAbs_natCast] at H4
  rw [H4, Option.bind_some]
  simp only []
  rw [← Int.natCast_mul, ← Int.natCast_mul]
  obtain ⟨o, ho, V, pp, s, hsel, hR, hV, hs, g1, g2, g3⟩ := sum_ok (sg1 := ((U * n : Nat) : Int).sign) (sg2 := ((L * n : Nat) : Int).sign) (p1 := 3 * p + 53) (p2 := 3 * p) (V1 := U * n) (V2 := L * n) (sign_3 _) (sign_3 _) (nsg0 _) (nsg0 _) (by omega) (by omega) (by omega) (by omega)
  rw [CS] at hsel hR
  rw [Int.natAbs_natCast] at hR
  have g3 := g3 (nsg1 _) (nsg1 _)
  rw [ho, Option.bind_some]
  have hmt : mt (st.2.1 i) ≠ 0 := fun z => v0 (hf.2.2.2.2.1.mp z)
  obtain ⟨r, j1, j2, j3, j4, j5, j6, j7, j8, E, R1, R2, R3, R4⟩ := cube_ord hR hV (rep_0 hR (cubev_0 hn0) g3) g3 (by omega) (by omega) hmt hf.1 hf.2.2.1 hf.2.2.2.1 hf.2.1.symm
  rcases hsel with ⟨t1, t2, t3, t4, t5, t6⟩ | ⟨t1, t2, t3, t4, t5, t6⟩
  · rw [if_pos t1, t3, t4, t5, t6, E, Option.bind_some]
    exact ⟨r, _, _, _, _, _, _, _, _, _, _, _, _, _, _, _, rfl, R1, R2, R3, R4⟩
  · rw [if_neg (by rw [t1]; decide), t3, t4, t5, t6, E, Option.bind_some]
    exact ⟨r, _, _, _, _, _, _, _, _, _, _, _, _, _, _, _, rfl, R1, R2, R3, R4⟩
def A_cube (st : ASt) (a1 a2 : Int32) : Int32 :=
  if okr a1 ∧ okr a2 then
    if sgn (st.1 (ix a1)) (st.2.1 (ix a1)) = sgn (st.1 (ix a2)) (st.2.1 (ix a2)) then
      if st.2.1 (ix a2) = 0 then 1
      else if cubev (mt (st.2.1 (ix a2)) - 1) (pz (st.2.1 (ix a2))) < st.2.1 (ix a1) ∧ st.2.1 (ix a1) < cubev (mt (st.2.1 (ix a2)) + 1) (pz (st.2.1 (ix a2))) then 1 else 0
    else 0
  else -1
set_option maxHeartbeats 1000000 in
theorem X_cube_ok {st : ASt} (hI : Inv st) (c1 : Int32) (c2 c3 : Int64) (c4 c5 c6 : Int32) (c7 c8 : Int64) (c9 c10 c11 : Int32) (c12 c13 : Int64) (c14 c15 a1 a2 : Int32) : ∃ (j1 : Int32) (j2 j3 : Int64) (j4 j5 j6 : Int32) (j7 j8 : Int64) (j9 j10 j11 : Int32) (j12 j13 : Int64) (j14 j15 : Int32), f_X_cubeRoot (xM st) (xP st) c1 c2 c3 c4 c5 c6 c7 c8 c9 c10 c11 c12 c13 c14 c15 a1 a2 = some (A_cube st a1 a2, j1, j2, j3, j4, j5, j6, j7, j8, j9, j10, j11, j12, j13, j14, j15) := by
  unfold f_X_cubeRoot A_cube
  rw [isReg_ok, isReg_ok]
  simp only [Option.bind_some]
  by_cases h1 : okr a1
  · by_cases h2 : okr a2
    · rw [decide_eq_true h1, if_neg (show ¬ bI true = 0 by decide), decide_eq_true h2, if_neg (show ¬ bI true = 0 by decide), if_pos (show okr a1 ∧ okr a2 from ⟨h1, h2⟩)]
      obtain ⟨i, hi, rfl⟩ := okr_nI h1
      obtain ⟨j, hj, rfl⟩ := okr_nI h2
      have hfi := reg_facts (hI i).1
      have hfj := reg_facts (hI j).1
      simp only [if_neg (in8 hi), if_neg (in8 hj)]
      simp only [ix, cl8 hi, cl8 hj]
      rw [show xM st i = lI (mz (st.1 i) (st.2.1 i)) from rfl, show xM st j = lI (mz (st.1 j) (st.2.1 j)) from rfl, show xP st j = iI (pz (st.2.1 j)) from rfl]
      have ai := mz_abs (st.1 i) (st.2.1 i)
      have aj := mz_abs (st.1 j) (st.2.1 j)
      rw [signum_ok (by omega) (by omega), signum_ok (by omega) (by omega)]
      simp only [Option.bind_some]
      rw [mz_sign (hI i).1, mz_sign (hI j).1]
      have s1 := sgn_3 (st.1 i) (st.2.1 i)
      have s2 := sgn_3 (st.1 j) (st.2.1 j)
      by_cases c : sgn (st.1 i) (st.2.1 i) = sgn (st.1 j) (st.2.1 j)
      · have z0 : st.2.1 i = 0 ↔ st.2.1 j = 0 := by rw [← sgn_0 (st.1 i), c, sgn_0]
        rw [if_pos (congrArg iI c), if_pos c]
        have hz : lg_cmp (lI (mz (st.1 j) (st.2.1 j))) (0 : Int64) = 0 ↔ st.2.1 j = 0 := by
          rw [lg_cmp_eq, ← hfj.2.2.2.2.1]
          refine (lI_eq (b := 0) (by omega) (by omega) (by decide) (by decide)).trans ?_
          omega
        by_cases v0 : st.2.1 j = 0
        · rw [if_pos (hz.mpr v0), if_pos v0]
          exact ⟨_, _, _, _, _, _, _, _, _, _, _, _, _, _, _, rfl⟩
        · have vi : st.2.1 i ≠ 0 := fun q => v0 (z0.mp q)
          have big := hfj.2.2.2.2.2 v0
          rw [if_neg (fun q => v0 (hz.mp q)), if_neg v0, jabs_ok (by omega) (by omega), aj]
          have e1 : lN (mt (st.2.1 j)) - (1 : Int64) = lN (mt (st.2.1 j) - 1) := by
            rw [← lI_lN, ← lI_lN, show (1 : Int64) = lI 1 from rfl, lI_sub]; congr 1; omega
          have e2 : lN (mt (st.2.1 j)) + (1 : Int64) = lN (mt (st.2.1 j) + 1) := by
            rw [← lI_lN, ← lI_lN, show (1 : Int64) = lI 1 from rfl, lI_add]; rfl
          rw [e1, e2]
          obtain ⟨r, g1, g2, g3, g4, g5, g6, g7, g8, g9, g10, g11, g12, g13, g14, g15, E, R1, R2, R3, R4⟩ := cubeO_ok hI (n := mt (st.2.1 j) - 1) (p := pz (st.2.1 j)) hi vi (by omega) (by omega) (by omega) (by omega) c1 c2 c3 c4 c5 c6 c7 c8 c9 c10 c11 c12 c13 c14 c15
          obtain ⟨r', g1', g2', g3', g4', g5', g6', g7', g8', g9', g10', g11', g12', g13', g14', g15', E', R1', R2', R3', R4'⟩ := cubeO_ok hI (n := mt (st.2.1 j) + 1) (p := pz (st.2.1 j)) hi vi (by omega) (by omega) (by omega) (by omega) g1 g2 g3 g4 g5 g6 g7 g8 g9 g10 g11 g12 g13 g14 g15
          rw [E, Option.bind_some]
          by_cases r0 : 0 ≤ r
          · rw [if_pos ((iI_ge0 (by omega) (by omega)).mpr r0), if_neg (fun q => by have := R1.mpr q.1; omega)]
            exact ⟨_, _, _, _, _, _, _, _, _, _, _, _, _, _, _, rfl⟩
          · rw [if_neg (fun q => r0 ((iI_ge0 (by omega) (by omega)).mp q)), E', Option.bind_some]
            by_cases r1 : r' ≤ 0
            · rw [if_pos ((iI_le0 (by omega) (by omega)).mpr r1), if_neg (fun q => by have := R2'.mpr q.2; omega)]
              exact ⟨_, _, _, _, _, _, _, _, _, _, _, _, _, _, _, rfl⟩
            · rw [if_neg (fun q => r1 ((iI_le0 (by omega) (by omega)).mp q)), if_pos ⟨R1.mp (by omega), R2'.mp (by omega)⟩]
              exact ⟨_, _, _, _, _, _, _, _, _, _, _, _, _, _, _, rfl⟩
      · rw [if_neg (fun q => c ((iI_eq (by omega) (by omega) (by omega) (by omega)).mp q)), if_neg c]
        exact ⟨_, _, _, _, _, _, _, _, _, _, _, _, _, _, _, rfl⟩
    · rw [decide_eq_true h1, if_neg (show ¬ bI true = 0 by decide), decide_eq_false h2, if_pos (show bI false = 0 from rfl), if_neg (fun q => h2 q.2)]
      exact ⟨_, _, _, _, _, _, _, _, _, _, _, _, _, _, _, rfl⟩
  · rw [decide_eq_false h1, if_pos (show bI false = 0 from rfl), if_neg (fun q => h1 q.1)]
    exact ⟨_, _, _, _, _, _, _, _, _, _, _, _, _, _, _, rfl⟩
