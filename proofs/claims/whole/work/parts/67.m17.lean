/-! PURE: X's divide -/
theorem q_step {X b : Nat} (hb : 0 < b) : X * 2 ^ 10 / b = X / b * 2 ^ 10 + X % b * 2 ^ 10 / b ∧ X * 2 ^ 10 % b = X % b * 2 ^ 10 % b ∧ X % b * 2 ^ 10 / b < 2 ^ 10 := by
  have e : X * 2 ^ 10 = X % b * 2 ^ 10 + (X / b * 2 ^ 10) * b := by
    have := Nat.div_add_mod X b
    rw [Nat.mul_right_comm, ← Nat.add_mul, Nat.add_comm, Nat.mul_comm (X / b), this]
  refine ⟨?_, ?_, ?_⟩
  · rw [e, Nat.add_mul_div_right _ _ hb, Nat.add_comm]
  · rw [e, Nat.add_mul_mod_self_right]
  · rw [Nat.div_lt_iff_lt_mul hb, Nat.mul_comm]
    exact Nat.mul_lt_mul_of_pos_left (Nat.mod_lt X hb) (by decide)
theorem hq_loop {a b : Nat} (ha : a < 2 ^ 53) (hb : 0 < b) (hb2 : b < 2 ^ 53) (hb3 : 2 ^ 52 ≤ b) {m n e : Int} (hm : m.natAbs < 2 ^ 62) (hn : n.natAbs < 2 ^ 62) (sg : Int32) (hi lo : Int64) (pl mo : Int32) :
    ∀ (k f : Nat), k ≤ 6 → 6 - k < f → f_E_holdQuotient_35 f (lI m) (lI n) (iI e) (lN b) (lN (a * 2 ^ (10 * k) / b)) (lN (a * 2 ^ (10 * k) % b)) (nI k) sg hi lo pl mo = some (iI (m * n).sign, 0, lN (a * 2 ^ 60 / b), iI (e - 60), bI (decide (a * 2 ^ 60 % b ≠ 0))) := by
  intro k f
  induction f generalizing k with
  | zero => intro _ h; omega
  | succ f ih =>
    intro hk hf
    rw [f_E_holdQuotient_35]
    have c6 : (6 : Int32) ≤ nI k ↔ 6 ≤ k := nI_leI (a := 6) (by decide) (by omega)
    by_cases h6 : k = 6
    · subst h6
      rw [if_pos (c6.mpr (by decide)), signum_ok (by omega) (by omega), Option.bind_some, signum_ok (by omega) (by omega), Option.bind_some, iI_mul, sign_natAbs]
      have hr := Nat.mod_lt (a * 2 ^ (10 * 6)) hb
      have hz : lg_cmp (lN (a * 2 ^ (10 * 6) % b)) (0 : Int64) = 0 ↔ a * 2 ^ (10 * 6) % b = 0 := cz (by omega)
      rw [show (60 : Int32) = iI 60 from rfl, iI_sub]
      by_cases hz0 : a * 2 ^ (10 * 6) % b = 0
      · rw [if_pos (hz.mpr hz0), decide_eq_false (fun q => q hz0)]; rfl
      · rw [if_neg (fun q => hz0 (hz.mp q)), decide_eq_true hz0]; rfl
    · have hk5 : k < 6 := by omega
      rw [if_neg (fun q => h6 (by have := c6.mp q; omega)), if_neg (fun q => by have := (lN_e0 (by omega)).mp q; omega), if_neg (fun q => by have := (lN_e0 (by omega)).mp q; omega)]
      obtain ⟨q1, q2, q3⟩ := q_step (X := a * 2 ^ (10 * k)) hb
      have hr := Nat.mod_lt (a * 2 ^ (10 * k)) hb
      have e1 : a * 2 ^ (10 * (k + 1)) = a * 2 ^ (10 * k) * 2 ^ 10 := by rw [Nat.mul_assoc, ← Nat.pow_add]; rfl
      have hQ : a * 2 ^ (10 * (k + 1)) / b < 2 ^ 62 := by
        rw [Nat.div_lt_iff_lt_mul hb]
        calc a * 2 ^ (10 * (k + 1)) < 2 ^ 53 * 2 ^ (10 * (k + 1)) := Nat.mul_lt_mul_of_pos_right ha (Nat.two_pow_pos _)
          _ ≤ 2 ^ 53 * 2 ^ 60 := Nat.mul_le_mul_left _ (pow_mono (by omega))
          _ ≤ 2 ^ 62 * b := by omega
      rw [show (10 : Int32) = iI 10 from rfl, jshl_i _ (by decide) (by decide), jshl_i _ (by decide) (by decide)]
      show f_E_holdQuotient_35 f _ _ _ _ (lN (a * 2 ^ (10 * k) / b * 2 ^ 10) ||| lN (a * 2 ^ (10 * k) % b * 2 ^ 10) / lN b) (lN (a * 2 ^ (10 * k) % b * 2 ^ 10) - lN (a * 2 ^ (10 * k) % b * 2 ^ 10) / lN b * lN b) _ _ _ _ _ _ = _
      rw [pk_lRem (by omega) hb (by omega), pk_lDiv (by omega) hb (by omega), g_or (k := 10) rfl q3 (by rw [← q1, ← e1]; omega), ← q1, ← q2, ← e1, nI_1]
      exact ih (k + 1) (by omega) (by omega)
theorem holdQ_ok (sg : Int32) (hi lo : Int64) (pl mo : Int32) {m n e : Int} (hm : m.natAbs < 2 ^ 53) (hn : n.natAbs < 2 ^ 53) (hn2 : 2 ^ 52 ≤ n.natAbs) : f_E_holdQuotient sg hi lo pl mo (lI m) (lI n) (iI e) = some (iI (m * n).sign, hW (m.natAbs * 2 ^ 60 / n.natAbs), lW (m.natAbs * 2 ^ 60 / n.natAbs), iI (e - 60), bI (decide (m.natAbs * 2 ^ 60 % n.natAbs ≠ 0))) := by
  unfold f_E_holdQuotient
  rw [jabs_ok (by omega) (by omega), jabs_ok (by omega) (by omega)]
  have hb : 0 < n.natAbs := by omega
  have n0 : ¬ lN n.natAbs = 0 := fun q => by have := (lN_e0 (by omega)).mp q; omega
  have hQ : m.natAbs * 2 ^ 60 / n.natAbs < 2 ^ 64 := by
    rw [Nat.div_lt_iff_lt_mul hb]; omega
  rw [if_neg (fun q => n0 ((lg_cmp_eq _ _).mp q)), if_neg n0, if_neg n0, pk_lRem (by omega) hb (by omega), pk_lDiv (by omega) hb (by omega)]
  have L := hq_loop (a := m.natAbs) hm hb hn hn2 (m := m) (n := n) (e := e) (by omega) (by omega) sg hi lo pl mo 0 1000 (by decide) (by decide)
  rw [show 10 * 0 = 0 from rfl, Nat.pow_zero, Nat.mul_one] at L
  rw [hW_0 hQ, lW_s hQ]
  exact L
def dN (v w : Nat) : Nat := v * 2 ^ 2000 / w
def dS (v w : Nat) : Bool := decide (v * 2 ^ 2000 % w ≠ 0)
theorem div_rep {Y b q : Nat} (hb : 0 < b) : Y * 2 ^ q / b / 2 ^ q = Y / b ∧ (decide (Y % b ≠ 0) = (decide (Y * 2 ^ q % b ≠ 0) || decide (Y * 2 ^ q / b % 2 ^ q ≠ 0))) := by
  have hp := Nat.two_pow_pos q
  have h1 : Y * 2 ^ q / b / 2 ^ q = Y / b := by
    rw [Nat.div_div_eq_div_mul, Nat.mul_div_mul_right _ _ hp]
  refine ⟨h1, ?_⟩
  rw [← Bool.decide_or, decide_eq_decide]
  generalize 2 ^ q = P at *
  constructor
  · intro h
    by_cases c : Y * P % b = 0
    · right; intro c2
      apply h
      have e1 : Y * P = b * (Y * P / b) := by have := Nat.div_add_mod (Y * P) b; rw [c, Nat.add_zero] at this; exact this.symm
      have e2 : Y * P / b = P * (Y * P / b / P) := by have := Nat.div_add_mod (Y * P / b) P; rw [c2, Nat.add_zero] at this; exact this.symm
      rw [h1] at e2
      rw [e2, Nat.mul_comm P, ← Nat.mul_assoc] at e1
      have e3 : Y = b * (Y / b) := Nat.eq_of_mul_eq_mul_right hp e1
      rw [e3]; exact Nat.mul_mod_right _ _
    · exact Or.inl c
  · intro h c
    have e1 : Y = b * (Y / b) := by have := Nat.div_add_mod Y b; rw [c, Nat.add_zero] at this; exact this.symm
    have e2 : Y * P = b * (Y / b * P) := by rw [← Nat.mul_assoc, ← e1]
    rcases h with h | h
    · exact h (by rw [e2]; exact Nat.mul_mod_right _ _)
    · exact h (by rw [e2, Nat.mul_div_cancel_left _ hb]; exact Nat.mul_mod_left _ _)
theorem dq_val {v w : Nat} (hv : vok v) (hw : vok w) (w0 : w ≠ 0) : Rep (dN v w) (dS v w) (mt v * 2 ^ 60 / mt w) (pz v - pz w - 60) (decide (mt v * 2 ^ 60 % mt w ≠ 0)) := by
  have fv := reg_facts hv
  have fw := reg_facts hw
  have a := fv.2.1
  have b := fw.2.1
  have hb : 0 < mt w := Nat.pos_of_ne_zero (fun z => w0 (fw.2.2.2.2.1.mp z))
  unfold val at a b
  obtain ⟨q, hq⟩ : ∃ q : Nat, (q : Int) = pz v - pz w - 60 + 2000 := ⟨(pz v - pz w - 60 + 2000).toNat, by omega⟩
  have e : v * 2 ^ 2000 = mt v * 2 ^ 60 * 2 ^ q * 2 ^ (pz w + 2000).toNat := by
    conv => lhs; rw [← a]
    rw [Nat.mul_assoc, Nat.mul_assoc, Nat.mul_assoc, ← Nat.pow_add, ← Nat.pow_add, ← Nat.pow_add]
    congr 2; omega
  have hp := Nat.two_pow_pos (pz w + 2000).toNat
  have e1 : dN v w = mt v * 2 ^ 60 * 2 ^ q / mt w := by
    unfold dN
    rw [e]
    generalize 2 ^ (pz w + 2000).toNat = P at *
    generalize mt v * 2 ^ 60 * 2 ^ q = X
    conv => lhs; rhs; rw [← b]
    rw [Nat.mul_div_mul_right _ _ hp]
  have e2 : dS v w = decide (mt v * 2 ^ 60 * 2 ^ q % mt w ≠ 0) := by
    unfold dS
    rw [e]
    generalize 2 ^ (pz w + 2000).toNat = P at *
    generalize mt v * 2 ^ 60 * 2 ^ q = X
    have : X * P % w = X % mt w * P := by
      conv => lhs; rhs; rw [← b]
      rw [Nat.mul_mod_mul_right]
    rw [this, decide_eq_decide]
    constructor
    · intro h z; rw [z, Nat.zero_mul] at h; exact h rfl
    · intro h z; rcases Nat.mul_eq_zero.mp z with y | y <;> omega
  obtain ⟨r1, r2⟩ := div_rep (Y := mt v * 2 ^ 60) (q := q) hb
  refine ⟨q, hq, ?_, ?_⟩
  · rw [e1, r1]
  · rw [e1, e2, r2]
abbrev div_in (st : ASt) (a1 a2 a3 a4 : Int32) : Prop := tk st a1 a2 a3 a4 ∧ st.2.1 (ix a3) ≠ 0
def A_div (st : ASt) (a1 a2 a3 a4 : Int32) : Int32 × ASt := if div_in st a1 a2 a3 a4 then aop st (ix a1) (zz st (ix a2) * zz st (ix a3)).sign (dN (st.2.1 (ix a2)) (st.2.1 (ix a3))) (dS (st.2.1 (ix a2)) (st.2.1 (ix a3))) (bitsOf a4) else (-1, st)
theorem sgn_mul {st : ASt} (hI : Inv st) (i j : Nat) : (mz (st.1 i) (st.2.1 i) * mz (st.1 j) (st.2.1 j)).sign = (zz st i * zz st j).sign := by
  rw [Int.sign_mul, Int.sign_mul, zz_sign, zz_sign, mz_sign (hI i).1, mz_sign (hI j).1]
theorem A_div_t {st : ASt} {a1 a2 a3 a4 : Int32} (h : div_in st a1 a2 a3 a4) : A_div st a1 a2 a3 a4 = aop st (ix a1) (zz st (ix a2) * zz st (ix a3)).sign (dN (st.2.1 (ix a2)) (st.2.1 (ix a3))) (dS (st.2.1 (ix a2)) (st.2.1 (ix a3))) (bitsOf a4) := if_pos h
theorem A_div_f {st : ASt} {a1 a2 a3 a4 : Int32} (h : ¬ div_in st a1 a2 a3 a4) : A_div st a1 a2 a3 a4 = (-1, st) := if_neg h
theorem dv_s {v w : Nat} (hv : vok v) (hw : vok w) (w0 : w ≠ 0) : mt v * 2 ^ 60 / mt w < 2 ^ 64 ∧ ((dS v w = false ∧ decide (mt v * 2 ^ 60 % mt w ≠ 0) = false) ∨ 53 < bl (mt v * 2 ^ 60 / mt w)) := by
  have fv := reg_facts hv
  have fw := reg_facts hw
  have m52 := fw.2.2.2.2.2 w0
  have hb : 0 < mt w := by omega
  refine ⟨by rw [Nat.div_lt_iff_lt_mul hb]; omega, ?_⟩
  by_cases z : v = 0
  · left
    subst z
    refine ⟨?_, ?_⟩
    · unfold dS; rw [Nat.zero_mul, Nat.zero_mod]; rfl
    · rw [fv.2.2.2.2.1.mpr rfl, Nat.zero_mul, Nat.zero_mod]; rfl
  · right
    have := fv.2.2.2.2.2 z
    apply bl_lt_iff.mpr
    rw [Nat.le_div_iff_mul_le hb]
    omega
theorem fin_bind {st : ASt} {d : Nat} (hd : d < 8) {x : Option (Int32 × Int64 × Int64 × Int32 × Int32)} {sg p : Int} {V N : Nat} {S s : Bool} (nar : Int32) (hx : x = some (iI sg, hW V, lW V, iI p, bI s)) (hsg : sg = -1 ∨ sg = 0 ∨ sg = 1) (hz : sg = 0 → V = 0) (hV : V < 2 ^ 128) (hR : Rep N S V p s) (hs : (S = false ∧ s = false) ∨ 53 < bl V) (hp1 : -1990 ≤ p) (hp2 : p < 5000) {R : Int32 × ASt} (hA : R = aop st d sg N S (bitsOf nar)) :
    ∃ j1 j2 j3 j4 j5, Option.bind x (fun q_54 => Option.bind (f_X_finish st.2.2.1 st.2.2.2.1 st.2.2.2.2 (xM st) (xP st) q_54.1 q_54.2.1 q_54.2.2.1 q_54.2.2.2.1 q_54.2.2.2.2 (nI d) nar) (fun q_65 => some (q_65.1, q_65.2.1, q_65.2.2.1, q_65.2.2.2.1, q_65.2.2.2.2.1, q_65.2.2.2.2.2.1, q_54.1, q_65.2.2.2.2.2.2.1, q_65.2.2.2.2.2.2.2.1, q_65.2.2.2.2.2.2.2.2.1, q_65.2.2.2.2.2.2.2.2.2))) = some (R.1, R.2.2.2.1, R.2.2.2.2.1, R.2.2.2.2.2, xM R.2, xP R.2, j1, j2, j3, j4, j5) := by
  subst hx
  obtain ⟨k1, k2, k3, k4, hf⟩ := fin_ok (st := st) hd nar hsg hz hV hR hs hp1 hp2
  rw [← hA] at hf
  simp only [Option.bind_some]
  rw [hf]
  exact ⟨_, _, _, _, _, rfl⟩
theorem X_div_ok {st : ASt} (hI : Inv st) (e1 : Int32) (e2 e3 : Int64) (e4 e5 a1 a2 a3 a4 : Int32) : ∃ j1 j2 j3 j4 j5, f_X_divide st.2.2.1 st.2.2.2.1 st.2.2.2.2 (xM st) (xP st) e1 e2 e3 e4 e5 a1 a2 a3 a4 = some ((A_div st a1 a2 a3 a4).1, (A_div st a1 a2 a3 a4).2.2.2.1, (A_div st a1 a2 a3 a4).2.2.2.2.1, (A_div st a1 a2 a3 a4).2.2.2.2.2, xM (A_div st a1 a2 a3 a4).2, xP (A_div st a1 a2 a3 a4).2, j1, j2, j3, j4, j5) := by
  unfold f_X_divide
  rw [may_ok hI, Option.bind_some]
  by_cases h : tk st a1 a2 a3 a4
  · rw [decide_eq_true h, if_neg (show ¬ bI true = 0 by decide)]
    obtain ⟨d, hd, rfl⟩ := okr_nI h.1
    obtain ⟨i, hi, rfl⟩ := okr_nI h.2.1
    obtain ⟨j, hj, rfl⟩ := okr_nI h.2.2.1
    have hvi := (hI i).1
    have hvj := (hI j).1
    have hfi := reg_facts hvi
    have hfj := reg_facts hvj
    have ai := mz_abs (st.1 i) (st.2.1 i)
    have aj := mz_abs (st.1 j) (st.2.1 j)
    have hz := mz_eq0 hvj (st.1 j)
    have hMj : xM st (nI j).toNatClampNeg = lI (mz (st.1 j) (st.2.1 j)) := by rw [cl8 hj]; rfl
    have hMi : xM st (nI i).toNatClampNeg = lI (mz (st.1 i) (st.2.1 i)) := by rw [cl8 hi]; rfl
    have hPj : xP st (nI j).toNatClampNeg = iI (pz (st.2.1 j)) := by rw [cl8 hj]; rfl
    have hPi : xP st (nI i).toNatClampNeg = iI (pz (st.2.1 i)) := by rw [cl8 hi]; rfl
    rw [if_neg (in8 hj), hMj]
    by_cases w0 : st.2.1 j = 0
    · rw [if_pos (hz.mpr w0), A_div_f (fun q => q.2 (by rw [ix, cl8 hj]; exact w0))]
      exact ⟨_, _, _, _, _, rfl⟩
    · have hin : div_in st (nI d) (nI i) (nI j) a4 := ⟨h, by rw [ix, cl8 hj]; exact w0⟩
      have hA := A_div_t hin
      rw [ix, ix, ix, cl8 hi, cl8 hj, cl8 hd] at hA
      rw [if_neg (fun q => w0 (hz.mp q)), if_neg (in8 hi), if_neg (in8 hj), if_neg (in8 hi), if_neg (in8 hj), hMi, hPi, hPj, iI_sub]
      have m52 := hfj.2.2.2.2.2 w0
      have hx := holdQ_ok e1 e2 e3 e4 e5 (m := mz (st.1 i) (st.2.1 i)) (n := mz (st.1 j) (st.2.1 j)) (e := pz (st.2.1 i) - pz (st.2.1 j)) (by omega) (by omega) (by omega)
      rw [ai, aj, sgn_mul hI] at hx
      have hp1 : -1990 ≤ pz (st.2.1 i) - pz (st.2.1 j) - 60 := by omega
      have hp2 : pz (st.2.1 i) - pz (st.2.1 j) - 60 < 5000 := by omega
      obtain ⟨hQ, hs⟩ := dv_s hvi hvj w0
      have hsg : (zz st i * zz st j).sign = 0 → mt (st.2.1 i) * 2 ^ 60 / mt (st.2.1 j) = 0 := by
        intro q
        have := Int.sign_eq_zero_iff_zero.mp q
        have h2 := congrArg Int.natAbs this
        rw [Int.natAbs_mul, zz_abs, zz_abs] at h2
        rcases Nat.mul_eq_zero.mp h2 with z | z
        · rw [hfi.2.2.2.2.1.mpr z, Nat.zero_mul, Nat.zero_div]
        · exact absurd z w0
      exact fin_bind hd a4 hx (sign_3 (zz st i * zz st j)) hsg (Nat.lt_of_lt_of_le hQ (by decide)) (dq_val hvi hvj w0) hs hp1 hp2 hA
  · rw [decide_eq_false h, if_pos (show bI false = 0 from rfl), A_div_f (fun q => h q.1)]
    exact ⟨_, _, _, _, _, rfl⟩
