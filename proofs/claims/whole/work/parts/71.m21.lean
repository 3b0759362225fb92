/-! PURE: the class's cubeRoot -/
theorem ord_cmp {C V B q qB : Nat} {s : Bool} (hV : V = C / 2 ^ q) (hs : s = decide (C % 2 ^ q ≠ 0)) (b1 : bl V = 126) (b2 : bl B = 126) : (ordv ((q : Int) - 2000) V s ((qB : Int) - 2000) B false < 0 ↔ C < B * 2 ^ qB) ∧ (0 < ordv ((q : Int) - 2000) V s ((qB : Int) - 2000) B false ↔ B * 2 ^ qB < C) := by
  have hp := Nat.two_pow_pos q
  have dm := Nat.div_add_mod C (2 ^ q)
  have hm := Nat.mod_lt C hp
  have hB0 : B ≠ 0 := fun z => by rw [z] at b2; simp [bl] at b2
  have blB := bl_mul B qB hB0
  have blC : bl C = 126 + q := by
    have := bl_div C q; rw [← hV, b1] at this; omega
  unfold ordv
  by_cases h : (q : Int) - 2000 = (qB : Int) - 2000
  · have e : q = qB := by omega
    subst e
    rw [if_pos rfl]
    rw [← hV] at dm
    generalize 2 ^ q = P at *
    have hcomm : P * V = V * P := Nat.mul_comm _ _
    rcases Nat.lt_trichotomy V B with c | c | c
    · have h1 : (V + 1) * P ≤ B * P := Nat.mul_le_mul_right _ c
      rw [Nat.add_mul, Nat.one_mul] at h1
      rw [if_neg (by omega), if_pos c]
      constructor <;> constructor <;> intro z <;> omega
    · subst c
      rw [if_pos rfl]
      by_cases z : C % P = 0
      · have hsf : s = false := by rw [hs]; exact decide_eq_false (fun y => y z)
        rw [hsf, if_pos rfl]
        constructor <;> constructor <;> intro y <;> omega
      · have hst : s = true := by rw [hs]; exact decide_eq_true z
        rw [hst, if_neg (by decide), if_pos rfl]
        constructor <;> constructor <;> intro y <;> omega
    · have h1 : (B + 1) * P ≤ V * P := Nat.mul_le_mul_right _ c
      rw [Nat.add_mul, Nat.one_mul] at h1
      rw [if_neg (by omega), if_neg (by omega)]
      constructor <;> constructor <;> intro z <;> omega
  · rw [if_neg h]
    by_cases c : q < qB
    · have : C < B * 2 ^ qB := bl_cmp (by omega)
      rw [if_pos (by omega)]
      constructor <;> constructor <;> intro z <;> omega
    · have : B * 2 ^ qB < C := bl_cmp (by omega)
      rw [if_neg (by omega)]
      constructor <;> constructor <;> intro z <;> omega
/-- a number that may be lifted: what lifting gives -/
theorem lift_rep {C V : Nat} {p : Int} {s : Bool} (hR : Rep C false V p s) (hV : V < 2 ^ 128) (h0 : V ≠ 0) (hs : s = false ∨ 126 ≤ bl V) (hp1 : -1800 ≤ p) (hp2 : p < 5000) : ∃ (V' q : Nat) (s' : Bool), f_E_lift (hW V) (lW V) (iI p) (bI s) = some (hW V', lW V', iI ((q : Int) - 2000), bI s') ∧ V' = C / 2 ^ q ∧ s' = decide (C % 2 ^ q ≠ 0) ∧ bl V' = 126 ∧ q < 7100 := by
  obtain ⟨q0, hq0, e1, e2⟩ := hR
  rw [Bool.false_or] at e2
  have hb := bl128 hV
  by_cases h : bl V ≤ 126
  · refine ⟨V * 2 ^ (126 - bl V), q0 - (126 - bl V), s, ?_, ?_, ?_, (lift_bl h0 h).1, by omega⟩
    · rw [lift_up _ h]; congr 4; omega
    · rcases hs with z | z
      · have hm : C % 2 ^ q0 = 0 := by rw [z] at e2; simpa using e2.symm
        have hC := div_mul_pow hm
        rw [← e1] at hC
        rw [hC, mul_pow_div _ (by omega)]; congr 2; omega
      · rw [show 126 - bl V = 0 by omega, Nat.pow_zero, Nat.mul_one, Nat.sub_zero]; exact e1
    · rcases hs with z | z
      · have hm : C % 2 ^ q0 = 0 := by rw [z] at e2; simpa using e2.symm
        have hC := div_mul_pow hm
        rw [hC, mul_pow_mod _ (by omega), z]; rfl
      · rw [show 126 - bl V = 0 by omega, Nat.sub_zero]; exact e2
  · refine ⟨V / 2 ^ (bl V - 126), q0 + (bl V - 126), s || decide (V % 2 ^ (bl V - 126) ≠ 0), ?_, ?_, ?_, ?_, by omega⟩
    · rw [lift_dn hV (by omega)]; congr 4; omega
    · rw [e1, cut_div]
    · rw [e2, e1, cut_mod, ← Bool.decide_or, decide_eq_decide]
      have hp := Nat.two_pow_pos q0
      constructor
      · rintro (z | z)
        · omega
        · have := Nat.mul_pos hp (Nat.pos_of_ne_zero z); omega
      · intro z
        by_cases y : C % 2 ^ q0 = 0
        · right; intro w; rw [w, Nat.mul_zero] at z; omega
        · exact Or.inl y
    · rw [bl_div]; omega
def cubev (n : Nat) (p : Int) : Nat := n * n * n * 2 ^ (3 * p + 2000).toNat
theorem cube_parts {n : Nat} (hn : n ≤ 2 ^ 53) : (jshl (hW (n * n)) (11 : Int32) ||| jushr (lW (n * n)) (53 : Int32)) = lN (n * n / 2 ^ 53) ∧ lW (n * n) &&& (9007199254740991 : Int64) = lN (n * n % 2 ^ 53) ∧ n * n / 2 ^ 53 ≤ 2 ^ 53 := by
  have h1 : n * n ≤ 2 ^ 53 * 2 ^ 53 := Nat.mul_le_mul hn hn
  have l := lW_lt (n * n)
  unfold hW lW
  generalize n * n = s at *
  refine ⟨?_, ?_, by omega⟩
  · rw [show (11 : Int32) = iI 11 from rfl, show (53 : Int32) = iI 53 from rfl, jshl_i _ (by decide) (by decide), jushr_i l (by decide) (by decide)]
    show lN (s / 2 ^ 64 * 2 ^ 11) ||| lN (s % 2 ^ 64 / 2 ^ 53) = _
    rw [g_or (k := 11) rfl (by omega) (by omega)]
    exact congrArg lN (by omega)
  · rw [show (9007199254740991 : Int64) = lN (2 ^ 53 - 1) from rfl, wb_mask l (by decide)]
    exact congrArg lN (by omega)
set_option maxHeartbeats 1000000 in
theorem cubeO_ok {st : ASt} (hI : Inv st) {i n : Nat} {p : Int} (hi : i < 8) (v0 : st.2.1 i ≠ 0) (hn0 : 0 < n) (hn : n ≤ 2 ^ 53) (hp1 : -160 < p) (hp2 : p < 60) (c1 : Int32) (c2 c3 : Int64) (c4 c5 c6 : Int32) (c7 c8 : Int64) (c9 c10 c11 : Int32) (c12 c13 : Int64) (c14 c15 : Int32) : ∃ (r : Int) (j1 : Int32) (j2 j3 : Int64) (j4 j5 j6 : Int32) (j7 j8 : Int64) (j9 j10 j11 : Int32) (j12 j13 : Int64) (j14 j15 : Int32), f_X_cubeOrder (xM st) (xP st) c1 c2 c3 c4 c5 c6 c7 c8 c9 c10 c11 c12 c13 c14 c15 (lN n) (iI p) (nI i) = some (iI r, j1, j2, j3, j4, j5, j6, j7, j8, j9, j10, j11, j12, j13, j14, j15) ∧ (r < 0 ↔ cubev n p < st.2.1 i) ∧ (0 < r ↔ st.2.1 i < cubev n p) ∧ -1 ≤ r ∧ r ≤ 1 := by
  have hv := (hI i).1
  have hf := reg_facts hv
  have ai := mz_abs (st.1 i) (st.2.1 i)
  unfold f_X_cubeOrder
  obtain ⟨k1, k2, k3⟩ := cube_parts hn
  rw [← lI_lN, holdP_ok _ _ _ _ _ (m := (n : Int)) (n := (n : Int)) (p := 0) (by simp; omega) (by simp; omega), Option.bind_some, Int.natAbs_natCast]
  simp only []
  sorry
