/-! PURE: trailing zeros; X's odd and exponent -/
theorem nx_and (a b : Nat) : nI a &&& nI b = nI (a &&& b) := by
  apply Int32.toBitVec_inj.1
  show BitVec.ofNat 32 a &&& BitVec.ofNat 32 b = BitVec.ofNat 32 (a &&& b)
  apply BitVec.eq_of_getLsbD_eq
  intro i hi
  simp [hi]
theorem nx_xor (a b : Nat) : nI a ^^^ nI b = nI (a ^^^ b) := by
  apply Int32.toBitVec_inj.1
  show BitVec.ofNat 32 a ^^^ BitVec.ofNat 32 b = BitVec.ofNat 32 (a ^^^ b)
  apply BitVec.eq_of_getLsbD_eq
  intro i hi
  simp [hi]
def tzf : Nat → Nat → Nat
  | 0, _ => 0
  | n + 1, v => if v % 2 = 0 then tzf n (v / 2) + 1 else 0
def tz (v : Nat) : Nat := tzf v v
def od (v : Nat) : Nat := v / 2 ^ tz v
theorem tzf_eq {o : Nat} (ho : o % 2 = 1) : ∀ (t n : Nat), t < n → tzf n (o * 2 ^ t) = t := by
  intro t
  induction t with
  | zero =>
    intro n hn
    obtain ⟨k, rfl⟩ : ∃ k, n = k + 1 := ⟨n - 1, by omega⟩
    rw [Nat.pow_zero, Nat.mul_one, tzf, if_neg (by omega)]
  | succ t ih =>
    intro n hn
    obtain ⟨k, rfl⟩ : ∃ k, n = k + 1 := ⟨n - 1, by omega⟩
    have e : o * 2 ^ (t + 1) = 2 * (o * 2 ^ t) := by rw [Nat.pow_succ, ← Nat.mul_assoc, Nat.mul_comm]
    rw [tzf, e, if_pos (Nat.mul_mod_right _ _), Nat.mul_div_cancel_left _ (by decide), ih k (by omega)]
theorem tz_eq {o t : Nat} (ho : o % 2 = 1) : tz (o * 2 ^ t) = t ∧ od (o * 2 ^ t) = o := by
  have h : tz (o * 2 ^ t) = t := tzf_eq ho t _ (by
    calc t < 2 ^ t := Nat.lt_two_pow_self
      _ ≤ o * 2 ^ t := Nat.le_mul_of_pos_left _ (by omega))
  refine ⟨h, ?_⟩
  unfold od; rw [h]; exact Nat.mul_div_cancel _ (Nat.two_pow_pos _)
theorem ex_odd (v : Nat) (h : v ≠ 0) : ∃ o t, o % 2 = 1 ∧ v = o * 2 ^ t := by
  induction v using Nat.strongRecOn with
  | ind v ih =>
    by_cases hv : v % 2 = 1
    · exact ⟨v, 0, hv, by rw [Nat.pow_zero, Nat.mul_one]⟩
    · obtain ⟨o, t, ho, e⟩ := ih (v / 2) (by omega) (by omega)
      refine ⟨o, t + 1, ho, ?_⟩
      rw [Nat.pow_succ, ← Nat.mul_assoc, ← e]; omega
def ez (v : Nat) : Int := if v = 0 then 0 else (tz v : Int) - 2000
theorem low_bits {o s : Nat} (ho : o % 2 = 1) (hs : s < 32) (hw : o * 2 ^ s < 2 ^ 32) : ((o * 2 ^ s) ^^^ (2 ^ 32 - 1)) &&& (o * 2 ^ s - 1) = 2 ^ s - 1 := by
  apply Nat.eq_of_testBit_eq
  intro j
  have hp := Nat.two_pow_pos s
  have e1 : o * 2 ^ s = 2 ^ s * o + 0 := by rw [Nat.mul_comm]; rfl
  have e2 : o * 2 ^ s - 1 = 2 ^ s * (o - 1) + (2 ^ s - 1) := by
    obtain ⟨k, rfl⟩ : ∃ k, o = k + 1 := ⟨o - 1, by omega⟩
    rw [Nat.add_sub_cancel, Nat.add_mul, Nat.one_mul, Nat.mul_comm k]; omega
  rw [Nat.testBit_and, Nat.testBit_xor, Nat.testBit_two_pow_sub_one, Nat.testBit_two_pow_sub_one]
  have t1 : (o * 2 ^ s).testBit j = if j < s then false else o.testBit (j - s) := by
    rw [e1, Nat.testBit_two_pow_mul_add _ hp]; simp
  have t2 : (o * 2 ^ s - 1).testBit j = if j < s then true else (o - 1).testBit (j - s) := by
    rw [e2, Nat.testBit_two_pow_mul_add _ (by omega), Nat.testBit_two_pow_sub_one]
    by_cases h : j < s <;> simp [h]
  rw [t1, t2]
  by_cases h : j < s
  · simp [h]; omega
  · simp only [if_neg h]
    rw [decide_eq_false h]
    by_cases h2 : j = s
    · subst h2
      rw [Nat.sub_self, Nat.testBit_zero, Nat.testBit_zero, decide_eq_true ho, show decide ((o - 1) % 2 = 1) = false from decide_eq_false (by omega)]
      simp
    · obtain ⟨k, hk⟩ : ∃ k, j - s = k + 1 := ⟨j - s - 1, by omega⟩
      rw [hk, Nat.testBit_succ, Nat.testBit_succ, show (o - 1) / 2 = o / 2 by omega]
      by_cases hj : j < 32
      · rw [decide_eq_true hj]; cases (o / 2).testBit k <;> rfl
      · have : (o / 2).testBit k = false := by
          have h3 : (o * 2 ^ s).testBit j = false := Nat.testBit_lt_two_pow (Nat.lt_of_lt_of_le hw (pow_mono (by omega)))
          rw [t1, if_neg h, hk, Nat.testBit_succ] at h3; exact h3
        rw [this]; simp
theorem ntz_dec : ∀ s, s < 32 → (if (0 : Int32) < nI (2 ^ s - 1) then (if nI (2 ^ s - 1) ≤ (65536 : Int32) then (f_J_ntzi_34 (nI (2 ^ s - 1)) (1 : Int32)) else (f_J_ntzi_34 (jiushr (nI (2 ^ s - 1)) (16 : Int32)) ((1 : Int32) + (16 : Int32)))) else (some (nI (2 ^ s - 1) &&& (32 : Int32)))) = some (nI s) := by decide +kernel
theorem ntzi_ok {o s : Nat} (ho : o % 2 = 1) (hs : s < 32) (hw : o * 2 ^ s < 2 ^ 32) : f_J_ntzi (nI (o * 2 ^ s)) = some (nI s) := by
  unfold f_J_ntzi
  have hp := Nat.two_pow_pos s
  have h1 : 1 ≤ o * 2 ^ s := Nat.mul_pos (by omega) hp
  have e : (nI (o * 2 ^ s) ^^^ (-1 : Int32)) &&& (nI (o * 2 ^ s) - (1 : Int32)) = nI (2 ^ s - 1) := by
    rw [show (-1 : Int32) = nI (2 ^ 32 - 1) by decide, show (1 : Int32) = nI 1 from rfl, nx_xor, pk_sub h1, nx_and, low_bits ho hs hw]
  rw [e]
  exact ntz_dec s hs
theorem ntz_ok {o s : Nat} (ho : o % 2 = 1) (hw : o * 2 ^ s < 2 ^ 64) : f_J_ntz (lN (o * 2 ^ s)) = some (iI s) := by
  unfold f_J_ntz
  have hs : s < 64 := by
    rcases Nat.lt_or_ge s 64 with q | q
    · exact q
    · have h1 := pow_mono q
      have h2 : 2 ^ s ≤ o * 2 ^ s := Nat.le_mul_of_pos_left _ (by omega)
      omega
  rw [show (32 : Int32) = iI 32 from rfl, jushr_i hw (by decide) (by decide), lN_i32, lN_i32]
  have nm : nI (o * 2 ^ s) = nI (o * 2 ^ s % 2 ^ 32) := by
    apply Int32.toBitVec_inj.1
    show BitVec.ofNat 32 _ = BitVec.ofNat 32 _
    apply BitVec.eq_of_toNat_eq
    rw [BitVec.toNat_ofNat, BitVec.toNat_ofNat, Nat.mod_mod]
  have z0 : ∀ n, n < 2 ^ 32 → (nI n = 0 ↔ n = 0) := by
    intro n hn
    constructor
    · intro q
      have := congrArg Int32.toInt q
      rw [nI_t hn, Int32.toInt_zero] at this
      split at this <;> omega
    · intro q; subst q; rfl
  by_cases h32 : s < 32
  · have e1 : o * 2 ^ s % 2 ^ 32 = (o % 2 ^ (32 - s)) * 2 ^ s := by
      have := sh_mod o s (32 - s)
      rw [show s + (32 - s) = 32 by omega] at this; exact this
    have ho2 : o % 2 ^ (32 - s) % 2 = 1 := by
      rw [show (2 : Nat) ^ (32 - s) = 2 * 2 ^ (31 - s) by rw [Nat.mul_comm, ← Nat.pow_succ]; congr 1; omega, Nat.mod_mul_right_mod]; exact ho
    have hlt : (o % 2 ^ (32 - s)) * 2 ^ s < 2 ^ 32 := by rw [← e1]; exact Nat.mod_lt _ (by decide)
    have hne : ¬ nI (o * 2 ^ s) = 0 := by
      rw [nm, z0 _ (Nat.mod_lt _ (by decide)), e1]
      intro q
      have := Nat.two_pow_pos s
      rcases Nat.mul_eq_zero.mp q with y | y <;> omega
    rw [if_neg hne, nm, e1, ntzi_ok ho2 h32 hlt, Option.bind_some, iI_nI]
  · have e1 : o * 2 ^ s % 2 ^ 32 = 0 := mul_pow_mod o (by omega)
    have e2 : o * 2 ^ s / 2 ^ 32 = o * 2 ^ (s - 32) := mul_pow_div o (by omega)
    have hlt : o * 2 ^ (s - 32) < 2 ^ 32 := by rw [← e2]; omega
    rw [if_pos (by rw [nm, e1]; rfl), show (32 : Int).toNat = 32 from rfl, e2, ntzi_ok ho (by omega) hlt, Option.bind_some, ← iI_nI, iI_add]
    congr 2; omega
theorem i2l_ok {z : Int} (h1 : -2147483648 ≤ z) (h2 : z < 2147483648) : (iI z).toInt64 = lI z := by
  rw [← Int64.toInt_inj, Int32.toInt_toInt64, iI_t h1 h2, lI_t (by omega) (by omega)]
/-- a register's mantissa: odd part and trailing zeros -/
theorem mt_odd {v : Nat} (hv : vok v) (v0 : v ≠ 0) : ∃ o s : Nat, o % 2 = 1 ∧ mt v = o * 2 ^ s ∧ od v = o ∧ (tz v : Int) = s + (pz v + 2000) ∧ s < 53 := by
  have fv := reg_facts hv
  have hm : mt v ≠ 0 := fun z => v0 (fv.2.2.2.2.1.mp z)
  obtain ⟨o, s, ho, e⟩ := ex_odd _ hm
  have hv2 : v = o * 2 ^ (s + (pz v + 2000).toNat) := by
    have := fv.2.1
    unfold val at this
    rw [e, Nat.mul_assoc, ← Nat.pow_add] at this
    exact this.symm
  have ht := tz_eq (t := s + (pz v + 2000).toNat) ho
  rw [← hv2] at ht
  have hs : s < 53 := by
    rcases Nat.lt_or_ge s 53 with q | q
    · exact q
    · have h1 := pow_mono q
      have h2 : 2 ^ s ≤ o * 2 ^ s := Nat.le_mul_of_pos_left _ (by omega)
      have := fv.1; omega
  exact ⟨o, s, ho, e, ht.2, by rw [ht.1]; omega, hs⟩
theorem ntz_mz {v : Nat} (hv : vok v) (v0 : v ≠ 0) (ng : Bool) {o s : Nat} (ho : o % 2 = 1) (e : mt v = o * 2 ^ s) (hs : s < 53) : f_J_ntz (lI (mz ng v)) = some (iI s) := by
  have fv := reg_facts hv
  rw [mz_mt]
  cases ng
  · show f_J_ntz (lI (mt v : Int)) = _
    rw [lI_lN, e]; exact ntz_ok ho (by rw [← e]; omega)
  · show f_J_ntz (lI (-(mt v : Int))) = _
    have hm : mt v ≠ 0 := fun z => v0 (fv.2.2.2.2.1.mp z)
    rw [lI_negN (by omega) (by omega), Int.natAbs_neg, Int.natAbs_natCast]
    have hp : (2 : Nat) ^ 64 = 2 ^ (64 - s) * 2 ^ s := by rw [← Nat.pow_add]; congr 1; omega
    have hlt : o * 2 ^ s < 2 ^ (64 - s) * 2 ^ s := by rw [← e, ← hp]; omega
    have hlt2 : o < 2 ^ (64 - s) := Nat.lt_of_mul_lt_mul_right hlt
    have e2 : 2 ^ 64 - mt v = (2 ^ (64 - s) - o) * 2 ^ s := by rw [Nat.sub_mul, ← hp, ← e]
    rw [e2]
    refine ntz_ok ?_ (by rw [← e2]; omega)
    have : (2 : Nat) ^ (64 - s) = 2 * 2 ^ (63 - s) := by rw [Nat.mul_comm, ← Nat.pow_succ]; congr 1; omega
    omega
def A_odd (st : ASt) (a1 : Int32) : Int64 := if okr a1 then lI (if st.1 (ix a1) = true then -((od (st.2.1 (ix a1)) : Nat) : Int) else ((od (st.2.1 (ix a1)) : Nat) : Int)) else lI (-4611686018427387904)
def A_exp (st : ASt) (a1 : Int32) : Int64 := if okr a1 then lI (ez (st.2.1 (ix a1))) else lI (-4611686018427387904)
theorem od_0 : od 0 = 0 := rfl
theorem X_odd_ok {st : ASt} (hI : Inv st) (a1 : Int32) : f_X_odd (xM st) a1 = some (A_odd st a1) := by
  unfold f_X_odd A_odd
  rw [isReg_ok, Option.bind_some]
  by_cases h1 : okr a1
  · rw [decide_eq_true h1, if_neg (show ¬ bI true = 0 by decide), if_pos h1]
    obtain ⟨i, hi, rfl⟩ := okr_nI h1
    rw [if_neg (in8 hi), if_neg (in8 hi), if_neg (in8 hi), ix, cl8 hi, show xM st i = lI (mz (st.1 i) (st.2.1 i)) from rfl]
    have hv := (hI i).1
    have hf := reg_facts hv
    have hz := mz_eq0 hv (st.1 i)
    by_cases v0 : st.2.1 i = 0
    · rw [if_pos (hz.mpr v0), v0, od_0]; cases st.1 i <;> rfl
    · rw [if_neg (fun q => v0 (hz.mp q))]
      obtain ⟨o, s, ho, e, eo, et, hs⟩ := mt_odd hv v0
      rw [ntz_mz hv v0 (st.1 i) ho e hs, Option.bind_some, eo]
      congr 1
      rw [← Int64.toInt_inj, jshr_t _ (by omega) (by omega), mz_t hv, mz_mt, e, Int.toNat_natCast]
      have hob : o ≤ mt (st.2.1 i) := by rw [e]; exact Nat.le_mul_of_pos_right _ (Nat.two_pow_pos _)
      have hm := hf.1
      have hP : (2 : Int) ^ s = ((2 ^ s : Nat) : Int) := by simp
      have hne : ((2 ^ s : Nat) : Int) ≠ 0 := by have := Nat.two_pow_pos s; omega
      rw [hP]
      cases st.1 i
      · show (((o * 2 ^ s : Nat) : Int)) / _ = (lI ((o : Nat) : Int)).toInt
        rw [lI_t (by omega) (by omega), Int.natCast_mul]
        exact Int.mul_ediv_cancel _ hne
      · show (-((o * 2 ^ s : Nat) : Int)) / _ = (lI (-((o : Nat) : Int))).toInt
        rw [lI_t (by omega) (by omega), Int.natCast_mul, ← Int.neg_mul]
        exact Int.mul_ediv_cancel _ hne
  · rw [decide_eq_false h1, if_pos (show bI false = 0 from rfl), if_neg h1, show (-4611686018427387904 : Int64) = lI (-4611686018427387904) by decide +kernel]
theorem X_exp_ok {st : ASt} (hI : Inv st) (a1 : Int32) : f_X_exponent (xM st) (xP st) a1 = some (A_exp st a1) := by
  unfold f_X_exponent A_exp
  rw [isReg_ok, Option.bind_some]
  by_cases h1 : okr a1
  · rw [decide_eq_true h1, if_neg (show ¬ bI true = 0 by decide), if_pos h1]
    obtain ⟨i, hi, rfl⟩ := okr_nI h1
    rw [if_neg (in8 hi), if_neg (in8 hi), if_neg (in8 hi), ix, cl8 hi, show xM st i = lI (mz (st.1 i) (st.2.1 i)) from rfl, show xP st i = iI (pz (st.2.1 i)) from rfl]
    have hv := (hI i).1
    have hf := reg_facts hv
    have hz := mz_eq0 hv (st.1 i)
    by_cases v0 : st.2.1 i = 0
    · rw [if_pos (hz.mpr v0), v0]; rfl
    · rw [if_neg (fun q => v0 (hz.mp q))]
      obtain ⟨o, s, ho, e, eo, et, hs⟩ := mt_odd hv v0
      rw [ntz_mz hv v0 (st.1 i) ho e hs, Option.bind_some, iI_add, i2l_ok (by omega) (by omega)]
      unfold ez
      rw [if_neg v0, et]
      congr 2; omega
  · rw [decide_eq_false h1, if_pos (show bI false = 0 from rfl), if_neg h1, show (-4611686018427387904 : Int64) = lI (-4611686018427387904) by decide +kernel]
