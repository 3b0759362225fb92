/-! PURE: registers; X's add, subtract, multiply, fuse, copy, scale -/
def mt (v : Nat) : Nat := v / 2 ^ (bl v - 53)
def sgn (ng : Bool) (v : Nat) : Int := if v = 0 then 0 else if ng = true then -1 else 1
def zz (st : ASt) (i : Nat) : Int := if st.1 i = true then -((st.2.1 i : Nat) : Int) else ((st.2.1 i : Nat) : Int)
abbrev okr (a : Int32) : Prop := 0 ≤ a.toInt ∧ a.toInt < 8
abbrev ix (a : Int32) : Nat := a.toNatClampNeg
abbrev nrw (v : Nat) : Prop := v % 2 ^ (bl v - 24) = 0
def Inv (st : ASt) : Prop := ∀ i, vok (st.2.1 i) ∧ (st.1 i = true → st.2.1 i ≠ 0)
theorem okr_nI {a : Int32} (h : okr a) : ∃ i, i < 8 ∧ a = nI i := by
  refine ⟨a.toInt.toNat, by omega, ?_⟩
  rw [← Int32.toInt_inj, nI_toInt (by omega)]; omega
theorem reg_facts {v : Nat} (h : vok v) : mt v < 2 ^ 53 ∧ val (mt v) (pz v) = v ∧ -152 ≤ pz v ∧ pz v ≤ 47 ∧ (mt v = 0 ↔ v = 0) ∧ (v ≠ 0 → 2 ^ 52 ≤ mt v) := by
  by_cases h0 : v = 0
  · subst h0; decide +kernel
  · rcases h with q | ⟨q1, q2, q3⟩
    · exact absurd q h0
    · have hb : bl (mt v) = 53 := by unfold mt; rw [bl_div]; omega
      have hm : mt v ≠ 0 := fun z => by rw [z] at hb; simp [bl] at hb
      have hp : pz v = (bl v : Int) - 2053 := by unfold pz; rw [if_neg h0]
      refine ⟨bl_le_iff.mp (Nat.le_of_eq hb), ?_, by omega, by omega, ⟨fun z => absurd z hm, fun z => absurd z h0⟩, fun _ => ?_⟩
      · unfold val mt
        rw [hp, show ((bl v : Int) - 2053 + 2000).toNat = bl v - 53 by omega]
        exact (div_mul_pow q3).symm
      · have := bl_le hm; rw [hb] at this; exact this
theorem mz_mt (ng : Bool) (v : Nat) : mz ng v = if ng = true then -(mt v : Int) else (mt v : Int) := rfl
theorem mz_abs (ng : Bool) (v : Nat) : (mz ng v).natAbs = mt v := by rw [mz_mt]; cases ng <;> simp
theorem mz_sign {ng : Bool} {v : Nat} (h : vok v) : (mz ng v).sign = sgn ng v := by
  obtain ⟨-, -, -, -, hz, -⟩ := reg_facts h
  unfold sgn
  rw [mz_mt]
  by_cases h0 : v = 0
  · rw [if_pos h0, hz.mpr h0]; cases ng <;> rfl
  · have : mt v ≠ 0 := fun z => h0 (hz.mp z)
    rw [if_neg h0]
    cases ng
    · exact Int.sign_eq_one_of_pos (by simp; omega)
    · exact Int.sign_eq_neg_one_of_neg (by simp; omega)
theorem sgn_3 (ng : Bool) (v : Nat) : sgn ng v = -1 ∨ sgn ng v = 0 ∨ sgn ng v = 1 := by
  unfold sgn; split
  · exact Or.inr (Or.inl rfl)
  · split
    · exact Or.inl rfl
    · exact Or.inr (Or.inr rfl)
theorem sgn_0 (ng : Bool) (v : Nat) : sgn ng v = 0 ↔ v = 0 := by
  unfold sgn; by_cases h : v = 0
  · simp [h]
  · cases ng <;> simp [h]
theorem sgn_zz (st : ASt) (i : Nat) : sgn (st.1 i) (st.2.1 i) * ((st.2.1 i : Nat) : Int) = zz st i := by
  unfold sgn zz; by_cases h : st.2.1 i = 0
  · simp [h]
  · cases st.1 i <;> simp [h]
theorem zz_abs (st : ASt) (i : Nat) : (zz st i).natAbs = st.2.1 i := by unfold zz; cases st.1 i <;> simp
theorem zz_sign (st : ASt) (i : Nat) : (zz st i).sign = sgn (st.1 i) (st.2.1 i) := by
  unfold zz sgn
  by_cases h : st.2.1 i = 0
  · rw [if_pos h, h]; cases st.1 i <;> rfl
  · rw [if_neg h]; cases st.1 i
    · exact Int.sign_eq_one_of_pos (by simp; omega)
    · exact Int.sign_eq_neg_one_of_neg (by simp; omega)
theorem narrow_iff {v : Nat} (h : vok v) : mt v % 2 ^ 29 = 0 ↔ nrw v := by
  unfold nrw
  by_cases h0 : v = 0
  · subst h0; decide +kernel
  · rcases h with q | ⟨q1, q2, q3⟩
    · exact absurd q h0
    · rw [show bl v - 24 = (bl v - 53) + 29 by omega, cut_mod, q3, Nat.zero_add]
      unfold mt
      have := Nat.two_pow_pos (bl v - 53)
      constructor
      · intro z; rw [z, Nat.mul_zero]
      · intro z; rcases Nat.mul_eq_zero.mp z with y | y <;> omega
theorem isNar_ok {st : ASt} (hI : Inv st) {i : Nat} (hi : i < 8) : f_X_isNarrow (xM st) (nI i) = some (bI (decide (nrw (st.2.1 i)))) := by
  unfold f_X_isNarrow
  rw [if_neg (in8 hi), cl8 hi, show xM st i = lI (mz (st.1 i) (st.2.1 i)) from rfl]
  have hv := (hI i).1
  have hf := reg_facts hv
  have hc : lg_cmp (lI (mz (st.1 i) (st.2.1 i)) &&& (536870911 : Int64)) (0 : Int64) = 0 ↔ nrw (st.2.1 i) := by
    rw [← narrow_iff hv, lg_cmp_eq, mz_mt, show (536870911 : Int64) = lN (2 ^ 29 - 1) from rfl]
    generalize mt (st.2.1 i) = n at hf
    cases st.1 i
    · show lI (n : Int) &&& _ = 0 ↔ _
      rw [lI_lN, wb_mask (by omega) (by decide), lN_e0 (by omega)]
    · show lI (-(n : Int)) &&& _ = 0 ↔ _
      by_cases hn0 : n = 0
      · subst hn0; decide
      · rw [lI_negN (by omega) (by omega), wb_mask (by omega) (by decide), lN_e0 (by omega)]
        omega
  by_cases h : nrw (st.2.1 i)
  · rw [if_pos (hc.mpr h), decide_eq_true h]; rfl
  · rw [if_neg (fun q => h (hc.mp q)), decide_eq_false h]; rfl
abbrev tk (st : ASt) (a1 a2 a3 a4 : Int32) : Prop := okr a1 ∧ okr a2 ∧ okr a3 ∧ (a4 = 0 ∨ (nrw (st.2.1 (ix a2)) ∧ nrw (st.2.1 (ix a3))))
theorem may_ok {st : ASt} (hI : Inv st) (a1 a2 a3 a4 : Int32) : f_X_mayTake (xM st) a1 a2 a3 a4 = some (bI (decide (tk st a1 a2 a3 a4))) := by
  unfold f_X_mayTake
  rw [isReg_ok, isReg_ok, isReg_ok]
  simp only [Option.bind_some]
  by_cases h1 : okr a1
  · rw [decide_eq_true h1, if_neg (show ¬ bI true = 0 by decide)]
    by_cases h2 : okr a2
    · rw [decide_eq_true h2, if_neg (show ¬ bI true = 0 by decide)]
      by_cases h3 : okr a3
      · rw [decide_eq_true h3, if_neg (show ¬ bI true = 0 by decide)]
        by_cases h4 : a4 = 0
        · rw [if_pos h4, decide_eq_true ⟨h1, h2, h3, Or.inl h4⟩]; rfl
        · rw [if_neg h4]
          obtain ⟨i, hi, rfl⟩ := okr_nI h2
          obtain ⟨j, hj, rfl⟩ := okr_nI h3
          rw [isNar_ok hI hi, isNar_ok hI hj]
          simp only [Option.bind_some]
          by_cases n1 : nrw (st.2.1 i)
          · rw [decide_eq_true n1, if_neg (show ¬ bI true = 0 by decide)]
            by_cases n2 : nrw (st.2.1 j)
            · rw [decide_eq_true n2, if_neg (show ¬ bI true = 0 by decide), decide_eq_true ⟨h1, h2, h3, Or.inr ⟨by rw [ix, cl8 hi]; exact n1, by rw [ix, cl8 hj]; exact n2⟩⟩]; rfl
            · rw [decide_eq_false n2, if_pos (show bI false = 0 from rfl), decide_eq_false (fun q => by rcases q.2.2.2 with z | z; exact h4 z; exact n2 (by have := z.2; rw [ix, cl8 hj] at this; exact this))]; rfl
          · rw [decide_eq_false n1, if_pos (show bI false = 0 from rfl), decide_eq_false (fun q => by rcases q.2.2.2 with z | z; exact h4 z; exact n1 (by have := z.1; rw [ix, cl8 hi] at this; exact this))]; rfl
      · rw [decide_eq_false h3, if_pos (show bI false = 0 from rfl), decide_eq_false (fun q => h3 q.2.2.1)]; rfl
    · rw [decide_eq_false h2, if_pos (show bI false = 0 from rfl), decide_eq_false (fun q => h2 q.2.1)]; rfl
  · rw [decide_eq_false h1, if_pos (show bI false = 0 from rfl), decide_eq_false (fun q => h1 q.1)]; rfl
/-- an exact result z at the scale 2^-2000, rounded to p bits, into register d -/
def zop (st : ASt) (d : Nat) (z : Int) (p : Nat) : Int32 × ASt := aop st d z.sign z.natAbs false p
def A_add (st : ASt) (a1 a2 a3 a4 : Int32) : Int32 × ASt := if tk st a1 a2 a3 a4 then zop st (ix a1) (zz st (ix a2) + zz st (ix a3)) (bitsOf a4) else (-1, st)
def A_sub (st : ASt) (a1 a2 a3 a4 : Int32) : Int32 × ASt := if tk st a1 a2 a3 a4 then zop st (ix a1) (zz st (ix a2) - zz st (ix a3)) (bitsOf a4) else (-1, st)
theorem sumZ_reg {st : ASt} (hI : Inv st) (i j : Nat) : sumZ (sgn (st.1 i) (st.2.1 i)) (sgn (st.1 j) (st.2.1 j)) (pz (st.2.1 i)) (pz (st.2.1 j)) (mt (st.2.1 i)) (mt (st.2.1 j)) = zz st i + zz st j := by
  unfold sumZ
  have h1 : mt (st.2.1 i) * 2 ^ (pz (st.2.1 i) + 2000).toNat = st.2.1 i := (reg_facts (hI i).1).2.1
  have h2 : mt (st.2.1 j) * 2 ^ (pz (st.2.1 j) + 2000).toNat = st.2.1 j := (reg_facts (hI j).1).2.1
  rw [h1, h2, sgn_zz, sgn_zz]
theorem sign_3 (z : Int) : z.sign = -1 ∨ z.sign = 0 ∨ z.sign = 1 := by
  rcases Int.lt_trichotomy z 0 with h | h | h
  · exact Or.inl (Int.sign_eq_neg_one_of_neg h)
  · subst h; exact Or.inr (Or.inl rfl)
  · exact Or.inr (Or.inr (Int.sign_eq_one_of_pos h))
/-- what the sum leaves may be finished -/
theorem sum_fin {st : ASt} {d : Nat} (hd : d < 8) (nar : Int32) {z : Int} {V : Nat} {p : Int} {s : Bool} (hR : Rep z.natAbs false V p s) (hV : V < 2 ^ 128) (hs : s = false ∨ 62 < bl V) (h1 : -1830 ≤ p) (h2 : p < 1000) : ∃ j1 j2 j3 j4, f_X_finish st.2.2.1 st.2.2.2.1 st.2.2.2.2 (xM st) (xP st) (iI z.sign) (hW V) (lW V) (iI p) (bI s) (nI d) nar = some ((zop st d z (bitsOf nar)).1, (zop st d z (bitsOf nar)).2.2.2.1, (zop st d z (bitsOf nar)).2.2.2.2.1, (zop st d z (bitsOf nar)).2.2.2.2.2, xM (zop st d z (bitsOf nar)).2, xP (zop st d z (bitsOf nar)).2, j1, j2, j3, j4) := by
  refine fin_ok hd nar (sign_3 z) (fun q => ?_) hV hR (by rcases hs with q | q; exact Or.inl ⟨rfl, q⟩; exact Or.inr (by omega)) (by omega) (by omega)
  have hz : z = 0 := Int.sign_eq_zero_iff_zero.mp q
  obtain ⟨k, -, e, -⟩ := hR
  rw [hz] at e; rw [e]; exact Nat.zero_div _
set_option maxHeartbeats 1000000 in
theorem X_add_ok {st : ASt} (hI : Inv st) (e1 : Int32) (e2 e3 : Int64) (e4 e5 e6 : Int32) (e7 e8 : Int64) (e9 e10 a1 a2 a3 a4 : Int32) : ∃ j1 j2 j3 j4 j5 j6 j7 j8 j9 j10, f_X_add st.2.2.1 st.2.2.2.1 st.2.2.2.2 (xM st) (xP st) e1 e2 e3 e4 e5 e6 e7 e8 e9 e10 a1 a2 a3 a4 = some ((A_add st a1 a2 a3 a4).1, (A_add st a1 a2 a3 a4).2.2.2.1, (A_add st a1 a2 a3 a4).2.2.2.2.1, (A_add st a1 a2 a3 a4).2.2.2.2.2, xM (A_add st a1 a2 a3 a4).2, xP (A_add st a1 a2 a3 a4).2, j1, j2, j3, j4, j5, j6, j7, j8, j9, j10) := by
  unfold f_X_add A_add
  rw [may_ok hI]
  simp only [Option.bind_some]
  by_cases h : tk st a1 a2 a3 a4
  · rw [decide_eq_true h, if_neg (show ¬ bI true = 0 by decide), if_pos h]
    obtain ⟨d, hd, rfl⟩ := okr_nI h.1
    obtain ⟨i, hi, rfl⟩ := okr_nI h.2.1
    obtain ⟨j, hj, rfl⟩ := okr_nI h.2.2.1
    have hfi := reg_facts (hI i).1
    have hfj := reg_facts (hI j).1
    simp only [if_neg (in8 hi), if_neg (in8 hj)]
    simp only [ix, cl8 hi, cl8 hj, cl8 hd]
    rw [show xM st i = lI (mz (st.1 i) (st.2.1 i)) from rfl, show xM st j = lI (mz (st.1 j) (st.2.1 j)) from rfl, show xP st i = iI (pz (st.2.1 i)) from rfl, show xP st j = iI (pz (st.2.1 j)) from rfl]
    have ai := mz_abs (st.1 i) (st.2.1 i)
    have aj := mz_abs (st.1 j) (st.2.1 j)
    rw [hold_ok _ _ _ _ _ (by omega) (by omega), hold_ok _ _ _ _ _ (by omega) (by omega)]
    simp only [Option.bind_some]
    rw [ai, aj, mz_sign (hI i).1, mz_sign (hI j).1]
    obtain ⟨o, ho, V, p, s, hsel, hR, hV, hs, hp1, hp2, -⟩ := sum_ok (sgn_3 (st.1 i) (st.2.1 i)) (sgn_3 (st.1 j) (st.2.1 j)) (by rw [sgn_0, hfi.2.2.2.2.1]) (by rw [sgn_0, hfj.2.2.2.2.1]) (by omega : mt (st.2.1 i) < 2 ^ 110) (by omega : mt (st.2.1 j) < 2 ^ 110) (p1 := pz (st.2.1 i)) (p2 := pz (st.2.1 j)) (by omega) (by omega)
    rw [ho]
    simp only [Option.bind_some]
    rw [sumZ_reg hI] at hsel hR
    obtain ⟨k1, k2, k3, k4, hf⟩ := sum_fin (st := st) hd a4 hR hV hs hp1 hp2
    rcases hsel with ⟨q1, q2, q3, q4, q5, q6⟩ | ⟨q1, q2, q3, q4, q5, q6⟩
    · rw [if_pos q1, q2, q3, q4, q5, q6, hf]; exact ⟨_, _, _, _, _, _, _, _, _, _, rfl⟩
    · rw [if_neg (by rw [q1]; decide), q2, q3, q4, q5, q6, hf]; exact ⟨_, _, _, _, _, _, _, _, _, _, rfl⟩
  · rw [decide_eq_false h, if_pos (show bI false = 0 from rfl), if_neg h]
    exact ⟨_, _, _, _, _, _, _, _, _, _, rfl⟩
