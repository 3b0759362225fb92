/-! PURE: X's whole, remainder -/
def wcl (lo hi z : Int) : Int := if z < lo then lo else if hi < z then hi else z
def wz (st : ASt) (i : Nat) : Int := if st.1 i = true then -((st.2.1 i / 2 ^ 2000 : Nat) : Int) else ((st.2.1 i / 2 ^ 2000 : Nat) : Int)
def A_whole (st : ASt) (a1 a2 : Int32) : Int64 := if okr a1 then lI (if a2 = 0 then wcl (-2147483648) 2147483647 (wz st (ix a1)) else wcl (-9223372036854775808) 9223372036854775807 (wz st (ix a1))) else lI (-4611686018427387904)
theorem div_val {v : Nat} (hv : vok v) : v / 2 ^ 2000 = if 0 ≤ pz v then mt v * 2 ^ (pz v).toNat else mt v / 2 ^ (-(pz v)).toNat := by
  have hf := reg_facts hv
  have e := hf.2.1
  unfold val at e
  by_cases h : 0 ≤ pz v
  · rw [if_pos h]
    have : v = mt v * 2 ^ (pz v).toNat * 2 ^ 2000 := by
      rw [Nat.mul_assoc, ← Nat.pow_add]; rw [show (pz v).toNat + 2000 = (pz v + 2000).toNat by omega]; exact e.symm
    conv => lhs; rw [this]
    exact Nat.mul_div_cancel _ (Nat.two_pow_pos _)
  · rw [if_neg h]
    have h2 : (2 : Nat) ^ 2000 = 2 ^ (-(pz v)).toNat * 2 ^ (pz v + 2000).toNat := by rw [← Nat.pow_add]; congr 1; omega
    conv => lhs; rw [← e]
    rw [h2, Nat.mul_div_mul_right _ _ (Nat.two_pow_pos _)]
theorem shifted_ok {v : Nat} (hv : vok v) (h : pz v < 11) : f_X_shifted (lN (mt v)) (iI (pz v)) = some (lN (v / 2 ^ 2000)) ∧ v / 2 ^ 2000 < 2 ^ 63 := by
  have hf := reg_facts hv
  unfold f_X_shifted
  rw [div_val hv]
  by_cases h0 : pz v < 0
  · rw [if_pos ((iI_lt0 (by omega) (by omega)).mpr h0), if_neg (show ¬ 0 ≤ pz v by omega)]
    have hle := Nat.div_le_self (mt v) (2 ^ (-(pz v)).toNat)
    refine ⟨?_, by omega⟩
    rw [show (-64 : Int32) = iI (-64) by decide, iI_neg]
    by_cases h1 : pz v ≤ -64
    · rw [if_pos ((iI_le (by omega) (by omega) (by decide) (by decide)).mpr h1)]
      have : 2 ^ 53 ≤ 2 ^ (-(pz v)).toNat := Nat.pow_le_pow_right (by decide) (by omega)
      rw [Nat.div_eq_of_lt (by omega)]; rfl
    · rw [if_neg (fun q => h1 ((iI_le (by omega) (by omega) (by decide) (by decide)).mp q)), jshr_i (by omega) (by omega) (by omega)]
  · rw [if_neg (fun q => h0 ((iI_lt0 (by omega) (by omega)).mp q)), if_pos (show 0 ≤ pz v by omega), jshl_i _ (by omega) (by omega)]
    refine ⟨rfl, ?_⟩
    have h2 : (2 : Nat) ^ (pz v).toNat ≤ 2 ^ 10 := Nat.pow_le_pow_right (by decide) (by omega)
    calc mt v * 2 ^ (pz v).toNat ≤ mt v * 2 ^ 10 := Nat.mul_le_mul_left _ h2
      _ < 2 ^ 63 := by omega
theorem topOf_ok {st : ASt} {i : Nat} (hi : i < 8) : f_X_topOf (xP st) (nI i) = some (iI (pz (st.2.1 i) + 52)) := by
  unfold f_X_topOf
  rw [if_neg (in8 hi), cl8 hi, show xP st i = iI (pz (st.2.1 i)) from rfl, show (53 : Int32) = iI 53 from rfl, show (1 : Int32) = iI 1 from rfl, iI_add, iI_sub]
  congr 2; omega
theorem mz_ge {v : Nat} (hv : vok v) (ng : Bool) (hn : ng = true → v ≠ 0) : (0 ≤ lg_cmp (lI (mz ng v)) (0 : Int64)) ↔ ng = false := by
  have hf := reg_facts hv
  have := mz_abs ng v
  rw [lg_cmp_ge, show (0 : Int64) = lI 0 from rfl, lI_le (by decide) (by decide) (by omega) (by omega), mz_mt]
  cases ng
  · simp
  · have : mt v ≠ 0 := fun z => hn rfl (hf.2.2.2.2.1.mp z)
    simp; omega
theorem whole_38 {st : ASt} (hI : Inv st) {i : Nat} (hi : i < 8) {L G : Int} (hL1 : -9223372036854775808 ≤ L) (hL2 : L ≤ 0) (hG1 : 0 ≤ G) (hG2 : G < 9223372036854775808) : f_X_whole_38 (nI i) (lI L) (lI G) (xM st) (xP st) = some (lI (wcl L G (wz st i))) := by
  unfold f_X_whole_38
  rw [topOf_ok hi]
  simp only [Option.bind_some, if_neg (in8 hi)]
  simp only [cl8 hi]
  rw [show xM st i = lI (mz (st.1 i) (st.2.1 i)) from rfl, show xP st i = iI (pz (st.2.1 i)) from rfl]
  have hv := (hI i).1
  have hf := reg_facts hv
  have ha := mz_abs (st.1 i) (st.2.1 i)
  have hg := mz_ge hv (st.1 i) (hI i).2
  rw [jabs_ok (by omega) (by omega), ha, show (63 : Int32) = iI 63 from rfl]
  unfold wcl wz
  by_cases ht : pz (st.2.1 i) < 11
  · obtain ⟨s1, s2⟩ := shifted_ok hv ht
    rw [if_pos ((iI_lt (by omega) (by omega) (by decide) (by decide)).mpr (by omega)), s1]
    simp only [Option.bind_some]
    unfold f_X_whole_107
    generalize st.2.1 i / 2 ^ 2000 = t at *
    have key : ∀ z : Int, -9223372036854775808 < z → z < 9223372036854775808 → jmaxl (lI L) (jminl (lI G) (lI z)) = lI (if z < L then L else if G < z then G else z) := by
      intro z z1 z2
      unfold jmaxl jminl
      have c1 : lI z < lI G ↔ z < G := lI_lt (by omega) z2 (by omega) hG2
      by_cases a : z < G
      · rw [if_pos (c1.mpr a)]
        have c2 : lI z < lI L ↔ z < L := lI_lt (by omega) z2 hL1 (by omega)
        by_cases b : z < L
        · rw [if_pos (c2.mpr b), if_pos b]
        · rw [if_neg (fun q => b (c2.mp q)), if_neg b, if_neg (by omega)]
      · rw [if_neg (fun q => a (c1.mp q))]
        have c2 : lI G < lI L ↔ G < L := lI_lt (by omega) hG2 hL1 (by omega)
        rw [if_neg (fun q => by have := c2.mp q; omega), if_neg (show ¬ z < L by omega)]
        by_cases b : G < z
        · rw [if_pos b]
        · rw [if_neg b, show z = G by omega]
    by_cases hb : st.1 i = false
    · rw [if_pos (hg.mpr hb), ← lI_lN, key t (by omega) (by omega), hb]; rfl
    · have hb' : st.1 i = true := by revert hb; cases st.1 i <;> simp
      rw [if_neg (fun q => hb (hg.mp q)), ← lI_lN, lI_neg, key (-(t : Int)) (by omega) (by omega), hb']; rfl
  · rw [if_neg (fun q => ht (by have := (iI_lt (by omega) (by omega) (by decide) (by decide)).mp q; omega))]
    have v0 : st.2.1 i ≠ 0 := fun z => by rw [z] at ht; exact ht (by decide)
    have hbig : 2 ^ 63 ≤ st.2.1 i / 2 ^ 2000 := by
      rw [div_val hv, if_pos (show 0 ≤ pz (st.2.1 i) by omega)]
      have h1 := hf.2.2.2.2.2 v0
      have h2 : (2 : Nat) ^ 11 ≤ 2 ^ (pz (st.2.1 i)).toNat := Nat.pow_le_pow_right (by decide) (by omega)
      calc 2 ^ 63 = 2 ^ 52 * 2 ^ 11 := by decide
        _ ≤ mt (st.2.1 i) * 2 ^ (pz (st.2.1 i)).toNat := Nat.mul_le_mul h1 h2
    generalize st.2.1 i / 2 ^ 2000 = t at *
    by_cases hb : st.1 i = false
    · rw [if_pos (hg.mpr hb), hb]
      show some (lI G) = some (lI (if (t : Int) < L then L else if G < (t : Int) then G else t))
      rw [if_neg (by omega), if_pos (by omega)]
    · have hb' : st.1 i = true := by revert hb; cases st.1 i <;> simp
      rw [if_neg (fun q => hb (hg.mp q)), hb']
      show some (lI L) = some (lI (if -(t : Int) < L then L else if G < -(t : Int) then G else -(t : Int)))
      by_cases c : -(t : Int) < L
      · rw [if_pos c]
      · rw [if_neg c, if_neg (by omega), show -(t : Int) = L by omega]
theorem X_whole_ok {st : ASt} (hI : Inv st) (a1 a2 : Int32) : f_X_whole (xM st) (xP st) a1 a2 = some (A_whole st a1 a2) := by
  unfold f_X_whole A_whole f_X_whole_24
  rw [isReg_ok]
  simp only [Option.bind_some]
  by_cases h1 : okr a1
  · rw [decide_eq_true h1, if_neg (show ¬ bI true = 0 by decide), if_pos h1]
    obtain ⟨i, hi, rfl⟩ := okr_nI h1
    rw [ix, cl8 hi]
    by_cases h2 : a2 = 0
    · rw [if_pos h2, if_pos h2, if_pos h2, show (-2147483648 : Int64) = lI (-2147483648) by decide +kernel, show (2147483647 : Int64) = lI 2147483647 by decide +kernel, whole_38 hI hi (by decide) (by decide) (by decide) (by decide)]
    · rw [if_neg h2, if_neg h2, if_neg h2, show (-9223372036854775808 : Int64) = lI (-9223372036854775808) by decide +kernel, show (9223372036854775807 : Int64) = lI 9223372036854775807 by decide +kernel, whole_38 hI hi (by decide) (by decide) (by decide) (by decide)]
  · rw [decide_eq_false h1, if_pos (show bI false = 0 from rfl), if_neg h1, show (-4611686018427387904 : Int64) = lI (-4611686018427387904) by decide +kernel]
/-! remainder -/
theorem la_loop {D : Nat} (hD : 0 < D) (hD2 : D < 2 ^ 53) : ∀ (n : Nat) (z : Int) (L : Nat), L < D → -100 < z → z < 10000 → z.toNat + 9 < 10 * n → f_X_leftAfter_17 n (lN D) (lN L) (iI z) = some (lN (L * 2 ^ z.toNat % D)) := by
  intro n
  induction n with
  | zero => intro z L _ _ _ h; omega
  | succ n ih =>
    intro z L hL hz1 hz2 hn
    rw [f_X_leftAfter_17]
    by_cases h : z ≤ 0
    · rw [if_pos ((iI_le0 (by omega) (by omega)).mpr h), show z.toNat = 0 by omega, Nat.pow_zero, Nat.mul_one, Nat.mod_eq_of_lt hL]
    · rw [if_neg (fun q => h ((iI_le0 (by omega) (by omega)).mp q)), if_neg (fun q => by have := (lN_e0 (by omega)).mp q; omega)]
      have hmin : jmin (iI z) (10 : Int32) = iI (if 10 < z then 10 else z) := by
        unfold jmin
        rw [show (10 : Int32) = iI 10 from rfl]
        by_cases c : 10 < z
        · rw [if_pos ((iI_lt (by decide) (by decide) (by omega) (by omega)).mpr c), if_pos c]
        · rw [if_neg (fun q => c ((iI_lt (by decide) (by decide) (by omega) (by omega)).mp q)), if_neg c]
      rw [hmin, show (-10 : Int32) = iI (-10) by decide, iI_add]
      obtain ⟨k, hk, hk2⟩ : ∃ k : Nat, (if 10 < z then 10 else z) = (k : Int) ∧ k ≤ 10 := by
        refine ⟨(if 10 < z then 10 else z).toNat, ?_, ?_⟩ <;> split <;> omega
      rw [hk, jshl_i _ (by omega) (by omega), Int.toNat_natCast]
      have hp : (2 : Nat) ^ k ≤ 2 ^ 10 := Nat.pow_le_pow_right (by decide) hk2
      have hb : L * 2 ^ k < 2 ^ 63 := by
        calc L * 2 ^ k ≤ L * 2 ^ 10 := Nat.mul_le_mul_left _ hp
          _ < 2 ^ 63 := by omega
      rw [pk_lRem hb hD (by omega)]
      by_cases c : 10 < z
      · have hk3 : k = 10 := by rw [if_pos c] at hk; omega
        subst hk3
        rw [ih (z + -10) _ (Nat.mod_lt _ hD) (by omega) (by omega) (by omega)]
        congr 2
        rw [show z.toNat = 10 + (z + -10).toNat by omega, Nat.pow_add, ← Nat.mul_assoc, Nat.mul_mod (L * 2 ^ 10 % D), Nat.mod_mod, ← Nat.mul_mod]
      · have hk3 : k = z.toNat := by rw [if_neg c] at hk; omega
        rw [ih (z + -10) _ (Nat.mod_lt _ hD) (by omega) (by omega) (by omega), show (z + -10).toNat = 0 by omega, Nat.pow_zero, Nat.mul_one, Nat.mod_mod, hk3]
theorem left_ok {m D : Nat} {z : Int} (hm : m < 2 ^ 53) (hD : 0 < D) (hD2 : D < 2 ^ 53) (hz1 : 0 ≤ z) (hz2 : z < 1000) : f_X_leftAfter (lN m) (lN D) (iI z) = some (lN (m * 2 ^ z.toNat % D)) := by
  unfold f_X_leftAfter
  have hc : (0 < lg_cmp (lN D) (0 : Int64)) := by
    rw [lg_cmp_gt]; exact (pk_lLT (a := 0) (by decide) (by omega)).mpr hD
  rw [if_pos hc, if_neg (fun q => by have := (lN_e0 (by omega)).mp q; omega), pk_lRem (by omega) hD (by omega), la_loop hD hD2 1000 z _ (Nat.mod_lt _ hD) (by omega) (by omega) (by omega)]
  rw [Nat.mod_mul_mod]
