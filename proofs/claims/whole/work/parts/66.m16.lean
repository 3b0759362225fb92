/-! PURE: X's remainder -/
theorem pow_mono {a b : Nat} (h : a ≤ b) : (2 : Nat) ^ a ≤ 2 ^ b := Nat.pow_le_pow_right (by decide) h
theorem far_iff {v w : Nat} (hv : vok v) (hw : vok w) (v0 : v ≠ 0) (w0 : w ≠ 0) : w * 2 ^ 60 ≤ v ↔ (60 < pz v - pz w ∨ (pz v - pz w = 60 ∧ mt w ≤ mt v)) := by
  have fv := reg_facts hv
  have fw := reg_facts hw
  have a := fv.2.1
  have b := fw.2.1
  unfold val at a b
  have m1 := fv.2.2.2.2.2 v0
  have m2 := fw.2.2.2.2.2 w0
  obtain ⟨q, hq⟩ : ∃ q : Nat, q = (pz w + 2000).toNat := ⟨_, rfl⟩
  rw [← hq] at b
  rcases Int.lt_trichotomy (pz v - pz w) 60 with h | h | h
  · have h1 : v < w * 2 ^ 60 := by
      have e : (pz v + 2000).toNat + 1 ≤ q + 60 := by omega
      have p1 := pow_mono e
      calc v = mt v * 2 ^ (pz v + 2000).toNat := a.symm
        _ < 2 ^ 53 * 2 ^ (pz v + 2000).toNat := Nat.mul_lt_mul_of_pos_right fv.1 (Nat.two_pow_pos _)
        _ = 2 ^ 52 * 2 ^ ((pz v + 2000).toNat + 1) := by rw [Nat.pow_succ]; omega
        _ ≤ mt w * 2 ^ (q + 60) := Nat.mul_le_mul m2 p1
        _ = w * 2 ^ 60 := by rw [Nat.pow_add, ← Nat.mul_assoc, b]
    constructor
    · intro z; omega
    · rintro (z | z) <;> omega
  · have e : (pz v + 2000).toNat = q + 60 := by omega
    have h1 : v = mt v * 2 ^ q * 2 ^ 60 := by rw [Nat.mul_assoc, ← Nat.pow_add, ← e]; exact a.symm
    have hp := Nat.two_pow_pos q
    constructor
    · intro z
      refine Or.inr ⟨h, ?_⟩
      rw [h1] at z
      have z2 : w ≤ mt v * 2 ^ q := Nat.le_of_mul_le_mul_right z (by decide)
      rw [← b] at z2
      exact Nat.le_of_mul_le_mul_right z2 hp
    · rintro (z | z)
      · omega
      · rw [h1]
        apply Nat.mul_le_mul_right
        calc w = mt w * 2 ^ q := b.symm
          _ ≤ mt v * 2 ^ q := Nat.mul_le_mul_right _ z.2
  · have h1 : w * 2 ^ 60 ≤ v := by
      have e : q + 60 + 1 ≤ (pz v + 2000).toNat := by omega
      have p1 := pow_mono e
      calc w * 2 ^ 60 = mt w * 2 ^ (q + 60) := by rw [Nat.pow_add, ← Nat.mul_assoc, b]
        _ ≤ 2 ^ 53 * 2 ^ (q + 60) := Nat.mul_le_mul_right _ (Nat.le_of_lt fw.1)
        _ = 2 ^ 52 * 2 ^ (q + 60 + 1) := by rw [Nat.pow_succ]; omega
        _ ≤ mt v * 2 ^ (pz v + 2000).toNat := Nat.mul_le_mul m1 p1
        _ = v := a
    exact ⟨fun _ => Or.inl h, fun _ => h1⟩
theorem mz_eq0 {v : Nat} (hv : vok v) (ng : Bool) : lg_cmp (lI (mz ng v)) (0 : Int64) = 0 ↔ v = 0 := by
  have hf := reg_facts hv
  have := mz_abs ng v
  rw [lg_cmp_eq, show (0 : Int64) = lI 0 from rfl, lI_eq (by omega) (by omega) (by decide) (by decide), ← Int.natAbs_eq_zero, this, hf.2.2.2.2.1]
def far (v w : Nat) : Bool := decide (w * 2 ^ 60 ≤ v)
theorem far_t {v w : Nat} (h : w * 2 ^ 60 ≤ v) : far v w = true := decide_eq_true h
theorem far_f {v w : Nat} (h : ¬ w * 2 ^ 60 ≤ v) : far v w = false := decide_eq_false h
theorem farG_ok {st : ASt} (hI : Inv st) {i j : Nat} (hi : i < 8) (hj : j < 8) (w0 : st.2.1 j ≠ 0) : f_X_isFarGreater (xM st) (xP st) (nI i) (nI j) = some (bI (far (st.2.1 i) (st.2.1 j))) := by
  unfold f_X_isFarGreater
  simp only [if_neg (in8 hi), if_neg (in8 hj)]
  simp only [cl8 hi, cl8 hj]
  rw [show xM st i = lI (mz (st.1 i) (st.2.1 i)) from rfl, show xM st j = lI (mz (st.1 j) (st.2.1 j)) from rfl, show xP st i = iI (pz (st.2.1 i)) from rfl, show xP st j = iI (pz (st.2.1 j)) from rfl]
  have hvi := (hI i).1
  have hvj := (hI j).1
  have hfi := reg_facts hvi
  have hfj := reg_facts hvj
  have ai := mz_abs (st.1 i) (st.2.1 i)
  have aj := mz_abs (st.1 j) (st.2.1 j)
  have hz := mz_eq0 hvi (st.1 i)
  rw [jabs_ok (by omega) (by omega), jabs_ok (by omega) (by omega), ai, aj, iI_sub, show (60 : Int32) = iI 60 from rfl]
  by_cases v0 : st.2.1 i = 0
  · rw [if_pos (hz.mpr v0), far_f (by rw [v0]; intro q; have := Nat.eq_zero_of_le_zero q; rcases Nat.mul_eq_zero.mp this with z | z; exact w0 z; exact absurd z (by decide))]
    rfl
  · rw [if_neg (fun q => v0 (hz.mp q))]
    have hF := far_iff hvi hvj v0 w0
    by_cases h1 : 60 ≤ pz (st.2.1 i) - pz (st.2.1 j)
    · rw [if_pos ((iI_le (by decide) (by decide) (by omega) (by omega)).mpr h1)]
      by_cases h2 : 60 < pz (st.2.1 i) - pz (st.2.1 j)
      · rw [if_pos ((iI_lt (by decide) (by decide) (by omega) (by omega)).mpr h2), far_t (hF.mpr (Or.inl h2))]; rfl
      · rw [if_neg (fun q => h2 ((iI_lt (by decide) (by decide) (by omega) (by omega)).mp q))]
        have hc : lg_cmp (lN (mt (st.2.1 i))) (lN (mt (st.2.1 j))) < 0 ↔ mt (st.2.1 i) < mt (st.2.1 j) := by
          rw [lg_cmp_lt]; exact pk_lLT (by omega) (by omega)
        by_cases h3 : mt (st.2.1 i) < mt (st.2.1 j)
        · rw [if_pos (hc.mpr h3), far_f (fun q => by have := hF.mp q; omega)]; rfl
        · rw [if_neg (fun q => h3 (hc.mp q)), far_t (hF.mpr (Or.inr ⟨by omega, by omega⟩))]; rfl
    · rw [if_neg (fun q => h1 ((iI_le (by decide) (by decide) (by omega) (by omega)).mp q)), far_f (fun q => by have := hF.mp q; omega)]; rfl
abbrev rem_in (st : ASt) (a1 a2 a3 : Int32) : Prop := okr a1 ∧ okr a2 ∧ okr a3 ∧ st.2.1 (ix a3) ≠ 0 ∧ far (st.2.1 (ix a2)) (st.2.1 (ix a3)) = false
def zrem (st : ASt) (i j : Nat) : Int := if st.1 i = true then -((st.2.1 i % st.2.1 j : Nat) : Int) else ((st.2.1 i % st.2.1 j : Nat) : Int)
def A_rem (st : ASt) (a1 a2 a3 : Int32) : Int32 × ASt := if rem_in st a1 a2 a3 then zop st (ix a1) (zrem st (ix a2) (ix a3)) 53 else (-1, st)
theorem mod_val {v w : Nat} (hv : vok v) (hw : vok w) (hp : pz w ≤ pz v) : v % w = val (mt v * 2 ^ (pz v - pz w).toNat % mt w) (pz w) := by
  have fv := reg_facts hv
  have fw := reg_facts hw
  have a := fv.2.1
  have b := fw.2.1
  unfold val at a b ⊢
  have e : (pz v + 2000).toNat = (pz v - pz w).toNat + (pz w + 2000).toNat := by omega
  rw [e, Nat.pow_add, ← Nat.mul_assoc] at a
  generalize 2 ^ (pz w + 2000).toNat = P at a b ⊢
  generalize 2 ^ (pz v - pz w).toNat = Q at a ⊢
  generalize mt v = m at a ⊢
  generalize mt w = n at b ⊢
  rw [← a, ← b, Nat.mul_mod_mul_right]
theorem rem_fin {st : ASt} {d i j : Nat} (hd : d < 8) (e1 : Int32) (e2 e3 : Int64) (e4 e5 : Int32) {m p : Int} (hm : m.natAbs < 2 ^ 53) (hp1 : -152 ≤ p) (hp2 : p ≤ 47) (hzr : m.sign * ((val m.natAbs p : Nat) : Int) = zrem st i j) : ∃ j1 j2 j3 j4 j5, Option.bind (f_E_hold e1 e2 e3 e4 e5 (lI m) (iI p)) (fun q_135 => f_X_remainder_138 (nI d) st.2.2.1 st.2.2.2.1 st.2.2.2.2 (xM st) (xP st) q_135.1 q_135.2.1 q_135.2.2.1 q_135.2.2.2.1 q_135.2.2.2.2) = some ((zop st d (zrem st i j) 53).1, (zop st d (zrem st i j) 53).2.2.2.1, (zop st d (zrem st i j) 53).2.2.2.2.1, (zop st d (zrem st i j) 53).2.2.2.2.2, xM (zop st d (zrem st i j) 53).2, xP (zop st d (zrem st i j) 53).2, j1, j2, j3, j4, j5) := by
  rw [hold_ok _ _ _ _ _ (by omega) (by omega)]
  simp only [Option.bind_some]
  unfold f_X_remainder_138
  have hN : (zrem st i j).natAbs = val m.natAbs p ∧ (zrem st i j).sign = m.sign := by
    rw [← hzr]
    rcases sign_3 m with q | q | q
    · have := sign_mulN (sg := -1) (N := val m.natAbs p) (Or.inl rfl)
      rw [q, this.1, this.2, if_neg (fun z => by rw [val_0] at z; have := Int.natAbs_eq_zero.mp z; rw [this] at q; cases q)]
      exact ⟨rfl, rfl⟩
    · have hm0 := Int.sign_eq_zero_iff_zero.mp q
      rw [q, hm0, Int.zero_mul]
      exact ⟨by rw [show val (Int.natAbs 0) p = 0 from val_0.mpr rfl]; rfl, rfl⟩
    · have := sign_mulN (sg := 1) (N := val m.natAbs p) (Or.inr rfl)
      rw [q, this.1, this.2, if_neg (fun z => by rw [val_0] at z; have := Int.natAbs_eq_zero.mp z; rw [this] at q; cases q)]
      exact ⟨rfl, rfl⟩
  obtain ⟨k1, k2, k3, k4, hf⟩ := sum_fin (st := st) hd 0 (z := zrem st i j) (V := m.natAbs) (p := p) (s := false) (by rw [hN.1]; exact Rep_self (by omega)) (by omega) (Or.inl rfl) (by omega) (by omega)
  have hb : bitsOf 0 = 53 := by unfold bitsOf; rw [if_pos rfl]
  rw [hN.2, hb] at hf
  rw [hf]
  exact ⟨_, _, _, _, _, rfl⟩
set_option maxHeartbeats 1000000 in
theorem X_rem_ok {st : ASt} (hI : Inv st) (e1 : Int32) (e2 e3 : Int64) (e4 e5 a1 a2 a3 : Int32) : ∃ j1 j2 j3 j4 j5, f_X_remainder st.2.2.1 st.2.2.2.1 st.2.2.2.2 (xM st) (xP st) e1 e2 e3 e4 e5 a1 a2 a3 = some ((A_rem st a1 a2 a3).1, (A_rem st a1 a2 a3).2.2.2.1, (A_rem st a1 a2 a3).2.2.2.2.1, (A_rem st a1 a2 a3).2.2.2.2.2, xM (A_rem st a1 a2 a3).2, xP (A_rem st a1 a2 a3).2, j1, j2, j3, j4, j5) := by
  unfold f_X_remainder A_rem
  rw [may_ok hI]
  simp only [Option.bind_some]
  by_cases h : okr a1 ∧ okr a2 ∧ okr a3
  · obtain ⟨h1, h2, h3⟩ := h
    rw [decide_eq_true (show tk st a1 a2 a3 0 from ⟨h1, h2, h3, Or.inl rfl⟩), if_neg (show ¬ bI true = 0 by decide)]
    obtain ⟨R, hR⟩ : ∃ R : Int32 × ASt, R = if rem_in st a1 a2 a3 then zop st (ix a1) (zrem st (ix a2) (ix a3)) 53 else (-1, st) := ⟨_, rfl⟩
    rw [← hR]
    have hR1 : rem_in st a1 a2 a3 → R = zop st (ix a1) (zrem st (ix a2) (ix a3)) 53 := fun q => by rw [hR, if_pos q]
    have hR2 : ¬ rem_in st a1 a2 a3 → R = (-1, st) := fun q => by rw [hR, if_neg q]
    clear hR
    obtain ⟨d, hd, rfl⟩ := okr_nI h1
    obtain ⟨i, hi, rfl⟩ := okr_nI h2
    obtain ⟨j, hj, rfl⟩ := okr_nI h3
    have hvi := (hI i).1
    have hvj := (hI j).1
    have hfi := reg_facts hvi
    have hfj := reg_facts hvj
    have ai := mz_abs (st.1 i) (st.2.1 i)
    have aj := mz_abs (st.1 j) (st.2.1 j)
    unfold f_X_remainder_129
    simp only [if_neg (in8 hi), if_neg (in8 hj)]
    simp only [cl8 hi, cl8 hj]
    rw [show xM st i = lI (mz (st.1 i) (st.2.1 i)) from rfl, show xM st j = lI (mz (st.1 j) (st.2.1 j)) from rfl, show xP st i = iI (pz (st.2.1 i)) from rfl, show xP st j = iI (pz (st.2.1 j)) from rfl]
    have hz := mz_eq0 hvj (st.1 j)
    have hrin : rem_in st (nI d) (nI i) (nI j) ↔ (st.2.1 j ≠ 0 ∧ far (st.2.1 i) (st.2.1 j) = false) := by
      unfold rem_in; rw [ix, ix, cl8 hi, cl8 hj]
      exact ⟨fun q => q.2.2.2, fun q => ⟨h1, h2, h3, q⟩⟩
    by_cases w0 : st.2.1 j = 0
    · rw [if_pos (hz.mpr w0), hR2 (fun q => (hrin.mp q).1 w0)]
      exact ⟨_, _, _, _, _, rfl⟩
    · rw [if_neg (fun q => w0 (hz.mp q)), farG_ok hI hi hj w0, Option.bind_some]
      by_cases hfar : far (st.2.1 i) (st.2.1 j) = true
      · rw [hfar, if_neg (show ¬ bI true = 0 by decide), hR2 (fun q => by have := (hrin.mp q).2; rw [hfar] at this; cases this)]
        exact ⟨_, _, _, _, _, rfl⟩
      · have hfar : far (st.2.1 i) (st.2.1 j) = false := by revert hfar; cases far (st.2.1 i) (st.2.1 j) <;> simp
        rw [hfar, if_pos (show bI false = 0 from rfl), hR1 (hrin.mpr ⟨w0, hfar⟩), ix, ix, ix, cl8 hd, cl8 hi, cl8 hj]
        have fin := fun (m p : Int) h1 h2 h3 h4 => rem_fin (st := st) (i := i) (j := j) hd e1 e2 e3 e4 e5 (m := m) (p := p) h1 h2 h3 h4
        by_cases hp : pz (st.2.1 j) ≤ pz (st.2.1 i)
        · rw [if_pos ((iI_le (by omega) (by omega) (by omega) (by omega)).mpr hp), jabs_ok (by omega) (by omega), jabs_ok (by omega) (by omega), ai, aj, iI_sub, left_ok hfi.1 (Nat.pos_of_ne_zero (fun z => w0 (hfj.2.2.2.2.1.mp z))) hfj.1 (by omega) (by omega)]
          simp only [Option.bind_some]
          have hge := mz_ge hvi (st.1 i) (hI i).2
          have hmod := mod_val hvi hvj hp
          have hlt : mt (st.2.1 i) * 2 ^ (pz (st.2.1 i) - pz (st.2.1 j)).toNat % mt (st.2.1 j) < mt (st.2.1 j) := Nat.mod_lt _ (Nat.pos_of_ne_zero (fun z => w0 (hfj.2.2.2.2.1.mp z)))
          have hzr : zrem st i j = if st.1 i = true then -((val (mt (st.2.1 i) * 2 ^ (pz (st.2.1 i) - pz (st.2.1 j)).toNat % mt (st.2.1 j)) (pz (st.2.1 j)) : Nat) : Int) else ((val (mt (st.2.1 i) * 2 ^ (pz (st.2.1 i) - pz (st.2.1 j)).toNat % mt (st.2.1 j)) (pz (st.2.1 j)) : Nat) : Int) := by
            unfold zrem; rw [hmod]
          generalize mt (st.2.1 i) * 2 ^ (pz (st.2.1 i) - pz (st.2.1 j)).toNat % mt (st.2.1 j) = L at *
          by_cases hb : st.1 i = false
          · rw [if_pos (hge.mpr hb), ← lI_lN]
            refine fin (L : Int) _ (by simp; omega) (by omega) (by omega) ?_
            rw [hzr, hb]
            show _ = ((val L (pz (st.2.1 j)) : Nat) : Int)
            rw [Int.natAbs_natCast]
            by_cases z : L = 0
            · rw [z, show val 0 (pz (st.2.1 j)) = 0 from val_0.mpr rfl]; rfl
            · rw [Int.sign_eq_one_of_pos (by omega), Int.one_mul]
          · have hb' : st.1 i = true := by revert hb; cases st.1 i <;> simp
            rw [if_neg (fun q => hb (hge.mp q)), ← lI_lN, lI_neg]
            refine fin (-(L : Int)) _ (by simp; omega) (by omega) (by omega) ?_
            rw [hzr, hb']
            show _ = -((val L (pz (st.2.1 j)) : Nat) : Int)
            rw [Int.natAbs_neg, Int.natAbs_natCast]
            by_cases z : L = 0
            · rw [z, show val 0 (pz (st.2.1 j)) = 0 from val_0.mpr rfl]; rfl
            · rw [Int.sign_eq_neg_one_of_neg (by omega), Int.neg_mul, Int.one_mul]
        · rw [if_neg (fun q => hp ((iI_le (by omega) (by omega) (by omega) (by omega)).mp q))]
          refine fin _ _ (by omega) (by omega) (by omega) ?_
          have hlt : st.2.1 i < st.2.1 j := by
            by_cases z : st.2.1 i = 0
            · omega
            · exact (val_lt hvi hvj z w0).mpr (Or.inl (by omega))
          rw [ai, hfi.2.1, mz_sign hvi, sgn_zz]
          unfold zz zrem
          rw [Nat.mod_eq_of_lt hlt]
  · rw [decide_eq_false (show ¬ tk st a1 a2 a3 0 from fun q => h ⟨q.1, q.2.1, q.2.2.1⟩), if_pos (show bI false = 0 from rfl), if_neg (show ¬ rem_in st a1 a2 a3 from fun q => h ⟨q.1, q.2.1, q.2.2.1⟩)]
    exact ⟨_, _, _, _, _, rfl⟩
