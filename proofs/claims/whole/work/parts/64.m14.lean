/-! PURE: X's compare, whole, count -/
def zcmp (x y : Int) : Int32 := if x < y then -1 else if x = y then 0 else 1
def A_cmp (st : ASt) (a1 a2 : Int32) : Int32 := if okr a1 ∧ okr a2 then zcmp (zz st (ix a1)) (zz st (ix a2)) else -2
theorem order_ok (x y : Int64) : f_X_order x y = some (zcmp x.toInt y.toInt) := by
  unfold f_X_order zcmp
  simp only [lg_cmp_ge, lg_cmp_le, Int64.le_iff_toInt_le]
  rcases Int.lt_trichotomy x.toInt y.toInt with h | h | h
  · rw [if_neg (by omega), if_pos h]
  · rw [if_pos (by omega), if_pos (by omega), if_neg (by omega), if_pos h]
  · rw [if_pos (by omega), if_neg (by omega), if_neg (by omega), if_neg (by omega)]
theorem mz_t {v : Nat} (h : vok v) (ng : Bool) : (lI (mz ng v)).toInt = mz ng v := by
  have := (reg_facts h).1
  have := mz_abs ng v
  exact lI_t (by omega) (by omega)
theorem val_lt {v w : Nat} (hv : vok v) (hw : vok w) (v0 : v ≠ 0) (w0 : w ≠ 0) : v < w ↔ (pz v < pz w ∨ (pz v = pz w ∧ mt v < mt w)) := by
  have fv := reg_facts hv
  have fw := reg_facts hw
  have e1 : pz v = (bl v : Int) - 2053 := by unfold pz; rw [if_neg v0]
  have e2 : pz w = (bl w : Int) - 2053 := by unfold pz; rw [if_neg w0]
  rcases Int.lt_trichotomy (pz v) (pz w) with h | h | h
  · exact ⟨fun _ => Or.inl h, fun _ => bl_cmp (by omega)⟩
  · have a := fv.2.1
    have b := fw.2.1
    unfold val at a b
    rw [h] at a
    have hp := Nat.two_pow_pos (pz w + 2000).toNat
    generalize 2 ^ (pz w + 2000).toNat = P at a b hp
    constructor
    · intro q
      refine Or.inr ⟨h, ?_⟩
      exact Nat.lt_of_mul_lt_mul_right (a := P) (by omega)
    · rintro (q | q)
      · omega
      · have := Nat.mul_lt_mul_of_pos_right q.2 hp; omega
  · have : w < v := bl_cmp (by omega)
    constructor <;> intro q <;> omega
set_option maxHeartbeats 1000000 in
theorem X_cmp_ok {st : ASt} (hI : Inv st) (a1 a2 : Int32) : f_X_compare (xM st) (xP st) a1 a2 = some (A_cmp st a1 a2) := by
  unfold f_X_compare A_cmp
  rw [isReg_ok, isReg_ok]
  simp only [Option.bind_some]
  by_cases h1 : okr a1
  · rw [decide_eq_true h1, if_neg (show ¬ bI true = 0 by decide)]
    by_cases h2 : okr a2
    · rw [decide_eq_true h2, if_neg (show ¬ bI true = 0 by decide), if_pos (show okr a1 ∧ okr a2 from ⟨h1, h2⟩)]
      obtain ⟨i, hi, rfl⟩ := okr_nI h1
      obtain ⟨j, hj, rfl⟩ := okr_nI h2
      unfold f_X_compare_97
      simp only [if_neg (in8 hi), if_neg (in8 hj)]
      simp only [ix, cl8 hi, cl8 hj]
      rw [show xM st i = lI (mz (st.1 i) (st.2.1 i)) from rfl, show xM st j = lI (mz (st.1 j) (st.2.1 j)) from rfl, show xP st i = iI (pz (st.2.1 i)) from rfl, show xP st j = iI (pz (st.2.1 j)) from rfl]
      have hfi := reg_facts (hI i).1
      have hfj := reg_facts (hI j).1
      have ai := mz_abs (st.1 i) (st.2.1 i)
      have aj := mz_abs (st.1 j) (st.2.1 j)
      rw [signum_ok (by omega) (by omega), signum_ok (by omega) (by omega), order_ok, mz_t (hI i).1, mz_t (hI j).1]
      simp only [Option.bind_some]
      rw [mz_sign (hI i).1, mz_sign (hI j).1]
      have s3 := sgn_3 (st.1 i) (st.2.1 i)
      have t3 := sgn_3 (st.1 j) (st.2.1 j)
      have s0 := sgn_0 (st.1 i) (st.2.1 i)
      have t0 := sgn_0 (st.1 j) (st.2.1 j)
      have zi : zz st i = sgn (st.1 i) (st.2.1 i) * ((st.2.1 i : Nat) : Int) := (sgn_zz st i).symm
      have zj : zz st j = sgn (st.1 j) (st.2.1 j) * ((st.2.1 j : Nat) : Int) := (sgn_zz st j).symm
      have mi : mz (st.1 i) (st.2.1 i) = sgn (st.1 i) (st.2.1 i) * ((mt (st.2.1 i) : Nat) : Int) := by
        rw [mz_mt]; unfold sgn
        by_cases z : st.2.1 i = 0
        · rw [hfi.2.2.2.2.1.mpr z]; simp
        · rw [if_neg z]; cases st.1 i <;> simp
      have mj : mz (st.1 j) (st.2.1 j) = sgn (st.1 j) (st.2.1 j) * ((mt (st.2.1 j) : Nat) : Int) := by
        rw [mz_mt]; unfold sgn
        by_cases z : st.2.1 j = 0
        · rw [hfj.2.2.2.2.1.mpr z]; simp
        · rw [if_neg z]; cases st.1 j <;> simp
      rw [zi, zj, mi, mj]
      have hvi := (hI i).1
      have hvj := (hI j).1
      generalize sgn (st.1 i) (st.2.1 i) = x at *
      generalize sgn (st.1 j) (st.2.1 j) = y at *
      generalize hvv : st.2.1 i = v at *
      generalize hww : st.2.1 j = w at *
      have L := fun a b => val_lt hvi hvj a b
      have L2 := fun a b => val_lt hvj hvi a b
      by_cases hxy : x = y
      · subst hxy
        rw [if_pos rfl]
        by_cases hx0 : x = 0
        · rw [if_pos ((iI_eq0 (by omega) (by omega)).mpr hx0)]
          subst hx0
          simp
        · have v0 : v ≠ 0 := fun z => hx0 (s0.mpr z)
          have w0 : w ≠ 0 := fun z => hx0 (t0.mpr z)
          have L := L v0 w0
          have L2 := L2 w0 v0
          rw [if_neg (fun q => hx0 ((iI_eq0 (by omega) (by omega)).mp q))]
          by_cases hp : pz v = pz w
          · rw [if_pos (by rw [hp])]
            show some _ = _
            congr 1
            unfold zcmp
            rcases s3 with rfl | rfl | rfl
            · rcases Nat.lt_trichotomy (mt v) (mt w) with q | q | q
              · have : v < w := L.mpr (Or.inr ⟨hp, q⟩)
                rw [if_neg (by omega), if_neg (by omega), if_neg (by omega), if_neg (by omega)]
              · have h3 : ¬ v < w := fun z => by have := L.mp z; omega
                have h4 : ¬ w < v := fun z => by have := L2.mp z; omega
                rw [if_neg (by omega), if_pos (by omega), if_neg (by omega), if_pos (by omega)]
              · have : w < v := L2.mpr (Or.inr ⟨hp.symm, q⟩)
                rw [if_pos (by omega), if_pos (by omega)]
            · omega
            · rcases Nat.lt_trichotomy (mt v) (mt w) with q | q | q
              · have : v < w := L.mpr (Or.inr ⟨hp, q⟩)
                rw [if_pos (by omega), if_pos (by omega)]
              · have h3 : ¬ v < w := fun z => by have := L.mp z; omega
                have h4 : ¬ w < v := fun z => by have := L2.mp z; omega
                rw [if_neg (by omega), if_pos (by omega), if_neg (by omega), if_pos (by omega)]
              · have : w < v := L2.mpr (Or.inr ⟨hp.symm, q⟩)
                rw [if_neg (by omega), if_neg (by omega), if_neg (by omega), if_neg (by omega)]
          · rw [if_neg (fun q => hp ((iI_eq (by omega) (by omega) (by omega) (by omega)).mp q))]
            unfold zcmp
            by_cases hlt : pz w ≤ pz v
            · have : w < v := L2.mpr (Or.inl (by omega))
              rw [if_pos ((iI_le (by omega) (by omega) (by omega) (by omega)).mpr hlt)]
              rcases s3 with rfl | rfl | rfl
              · rw [if_pos (by omega)]; rfl
              · omega
              · rw [if_neg (by omega), if_neg (by omega)]; rfl
            · have : v < w := L.mpr (Or.inl (by omega))
              rw [if_neg (fun q => hlt ((iI_le (by omega) (by omega) (by omega) (by omega)).mp q)), iI_neg]
              rcases s3 with rfl | rfl | rfl
              · rw [if_neg (by omega), if_neg (by omega)]; rfl
              · omega
              · rw [if_pos (by omega)]; rfl
      · rw [if_neg (fun q => hxy ((iI_eq (by omega) (by omega) (by omega) (by omega)).mp q))]
        unfold zcmp
        have hv : v = 0 ∨ 0 < v := by omega
        have hw : w = 0 ∨ 0 < w := by omega
        by_cases hle : y ≤ x
        · rw [if_pos ((iI_le (by omega) (by omega) (by omega) (by omega)).mpr hle)]
          have : y * (w : Int) < x * (v : Int) := by
            rcases s3 with rfl | rfl | rfl <;> rcases t3 with rfl | rfl | rfl <;> omega
          rw [if_neg (by omega), if_neg (by omega)]
        · rw [if_neg (fun q => hle ((iI_le (by omega) (by omega) (by omega) (by omega)).mp q))]
          have : x * (v : Int) < y * (w : Int) := by
            rcases s3 with rfl | rfl | rfl <;> rcases t3 with rfl | rfl | rfl <;> omega
          rw [if_pos this]
    · rw [decide_eq_false h2, if_pos (show bI false = 0 from rfl), if_neg (fun q => h2 q.2)]
  · rw [decide_eq_false h1, if_pos (show bI false = 0 from rfl), if_neg (fun q => h1 q.1)]
def cntN (vv : Nat → Nat) : Nat → Nat
  | 0 => 0
  | n + 1 => cntN vv n + (if nrw (vv n) then 1 else 0)
theorem nr_loop {st : ASt} (hI : Inv st) : ∀ (k n : Nat), k ≤ 8 → 8 - k < n → f_X_narrowRegisters_4 n (nI (cntN st.2.1 k)) (nI k) (xM st) = some (nI (cntN st.2.1 8)) := by
  intro k n
  induction n generalizing k with
  | zero => intro _ h; omega
  | succ n ih =>
    intro hk hn
    rw [f_X_narrowRegisters_4]
    by_cases h8 : k = 8
    · subst h8; rw [if_pos (by decide)]
    · have hlt : k < 8 := by omega
      rw [if_neg (fun q => by have := (nI_leI (a := 8) (by decide) (by omega)).mp q; omega), isNar_ok hI hlt]
      simp only [Option.bind_some]
      have hc : cntN st.2.1 (k + 1) = cntN st.2.1 k + (if nrw (st.2.1 k) then 1 else 0) := rfl
      have := ih (k + 1) (by omega) (by omega)
      rw [hc] at this
      by_cases hw : nrw (st.2.1 k)
      · rw [decide_eq_true hw, if_neg (show ¬ bI true = 0 by decide), nI_1, nI_1]
        rw [if_pos hw] at this; exact this
      · rw [decide_eq_false hw, if_pos (show bI false = 0 from rfl), nI_1]
        rw [if_neg hw] at this; exact this
def A_cnt (st : ASt) (a1 : Int32) : Int32 := if a1 = 0 then st.2.2.1 else if a1 = 1 then nI (cntN st.2.1 8) else if a1 = 2 then st.2.2.2.1 else if a1 = 3 then st.2.2.2.2 else -100
theorem X_cnt_ok {st : ASt} (hI : Inv st) (a1 : Int32) : f_X_count st.2.2.1 st.2.2.2.1 st.2.2.2.2 (xM st) a1 = some (A_cnt st a1) := by
  unfold f_X_count A_cnt f_X_narrowRegisters
  have := nr_loop hI 0 1000 (by decide) (by decide)
  rw [show f_X_narrowRegisters_4 1000 0 0 (xM st) = _ from this]
  simp only [Option.bind_some]
  split
  · rfl
  · split
    · rfl
    · split
      · rfl
      · split <;> rfl
