/-! PURE: Exact, going on: hold, holdProduct, lift, sizeOrder, takeLesser -/
theorem jshr_t (x : Int64) {z : Int} (h0 : 0 ≤ z) (h1 : z < 64) : (jshr x (iI z)).toInt = x.toInt / 2 ^ z.toNat := by
  have hk : z.toNat < 64 := by omega
  rw [iI_N h0]
  unfold jshr
  rw [wb_c _ hk]
  generalize z.toNat = k at hk
  have hD : ((lN k).toBitVec.smod 64).toNat = k := by
    rw [wb_tb, wb_sm k hk, BitVec.toNat_ofNat]; omega
  show (x.toBitVec.sshiftRight ((lN k).toBitVec.smod 64).toNat).toInt = _
  rw [hD, BitVec.toInt_sshiftRight, Int.shiftRight_eq_div_pow]
  rfl
theorem lI_pos {m : Int} (h : 0 ≤ m) : lI m = lN m.natAbs := by rw [← lI_lN]; congr 1; omega
theorem lI_negN {m : Int} (h : m ≤ 0) (h2 : -9223372036854775808 ≤ m) : lI m = lN (2 ^ 64 - m.natAbs) := by
  apply Int64.toBitVec_inj.mp
  show BitVec.ofInt 64 m = BitVec.ofNat 64 _
  apply BitVec.eq_of_toNat_eq
  rw [BitVec.toNat_ofInt, BitVec.toNat_ofNat]
  omega
theorem signum_ok {m : Int} (h1 : -9223372036854775808 < m) (h2 : m < 9223372036854775808) : f_J_signum (lI m) = some (iI m.sign) := by
  unfold f_J_signum
  rw [show (63 : Int32) = iI 63 from rfl, lI_neg]
  rcases Int.lt_trichotomy m 0 with h | h | h
  · have e1 : jshr (lI m) (iI 63) = -1 := by
      apply Int64.toInt_inj.mp
      rw [jshr_t _ (by decide) (by decide), lI_t (by omega) h2]
      show m / 2 ^ 63 = -1
      omega
    rw [e1, lI_pos (by omega), jushr_i (by omega) (by decide) (by decide), Int.sign_eq_neg_one_of_neg h]
    rw [show (-m).natAbs / 2 ^ (63 : Int).toNat = 0 from Nat.div_eq_of_lt (by show _ < 2 ^ 63; omega)]
    rfl
  · subst h; rfl
  · rw [lI_pos (m := m) (by omega), jshr_i (by omega) (by decide) (by decide), lI_negN (by omega) (by omega), jushr_i (by omega) (by decide) (by decide), Int.sign_eq_one_of_pos h]
    rw [show m.natAbs / 2 ^ (63 : Int).toNat = 0 from Nat.div_eq_of_lt (by show _ < 2 ^ 63; omega)]
    rw [show (2 ^ 64 - (-m).natAbs) / 2 ^ (63 : Int).toNat = 1 by show _ / 2 ^ 63 = 1; omega]
    rfl
theorem lI_pos0 {m : Int} (h1 : -9223372036854775808 ≤ m) (h2 : m < 9223372036854775808) : (0 : Int64) < lI m ↔ 0 < m := lI_lt (a := 0) (by decide) (by decide) h1 h2
theorem jabs_ok {m : Int} (h1 : -9223372036854775808 < m) (h2 : m < 9223372036854775808) : jabs (lI m) = lN m.natAbs := by
  unfold jabs
  by_cases h : 0 < m
  · rw [if_pos ((lI_pos0 (by omega) h2).mpr h), lI_pos (by omega)]
  · rw [if_neg (fun q => h ((lI_pos0 (by omega) h2).mp q)), lI_neg, lI_pos (by omega)]; congr 1; omega
theorem hW_0 {V : Nat} (h : V < 2 ^ 64) : hW V = 0 := by unfold hW; rw [Nat.div_eq_of_lt h]; rfl
theorem lW_s {V : Nat} (h : V < 2 ^ 64) : lW V = lN V := by unfold lW; rw [Nat.mod_eq_of_lt h]
theorem hold_ok (sg : Int32) (hi lo : Int64) (pl mo : Int32) {m p : Int} (h1 : -9223372036854775808 < m) (h2 : m < 9223372036854775808) : f_E_hold sg hi lo pl mo (lI m) (iI p) = some (iI m.sign, hW m.natAbs, lW m.natAbs, iI p, bI false) := by
  unfold f_E_hold
  rw [signum_ok h1 h2, jabs_ok h1 h2, hW_0 (by omega), lW_s (by omega)]
  rfl
theorem prod_hi {x y : Nat} (hx : x < 2 ^ 54) (hy : y < 2 ^ 54) : x / 2 ^ 32 * (y / 2 ^ 32) + (x / 2 ^ 32 * (y % 2 ^ 32) + x % 2 ^ 32 * (y / 2 ^ 32) + x % 2 ^ 32 * (y % 2 ^ 32) / 2 ^ 32) / 2 ^ 32 = x * y / 2 ^ 64 := by
  have ex := Nat.div_add_mod x (2 ^ 32)
  have ey := Nat.div_add_mod y (2 ^ 32)
  have hl := Nat.mod_lt x (show 0 < 2 ^ 32 by decide)
  have hm := Nat.mod_lt y (show 0 < 2 ^ 32 by decide)
  generalize x / 2 ^ 32 = a at *
  generalize x % 2 ^ 32 = b at *
  generalize y / 2 ^ 32 = c at *
  generalize y % 2 ^ 32 = d at *
  subst ex; subst ey
  have e : (2 ^ 32 * a + b) * (2 ^ 32 * c + d) = (a * c) * 2 ^ 64 + ((a * d + b * c) * 2 ^ 32 + b * d) := by
    rw [Nat.add_mul, Nat.mul_add, Nat.mul_add, show (2 : Nat) ^ 64 = 2 ^ 32 * 2 ^ 32 from rfl]
    generalize (2 : Nat) ^ 32 = P
    rw [show P * a * (P * c) = a * c * (P * P) by rw [Nat.mul_mul_mul_comm, Nat.mul_comm], show P * a * d = a * d * P by rw [Nat.mul_assoc, Nat.mul_comm], show b * (P * c) = b * c * P by rw [Nat.mul_left_comm, Nat.mul_comm], Nat.add_mul]
    omega
  rw [e, Nat.add_comm (a * c * 2 ^ 64), Nat.add_mul_div_right _ _ (by decide), Nat.add_comm (a * c)]
  congr 1
  rw [show (2 : Nat) ^ 64 = 2 ^ 32 * 2 ^ 32 from rfl, ← Nat.div_div_eq_div_mul, Nat.add_comm ((a * d + b * c) * 2 ^ 32), Nat.add_mul_div_right _ _ (by decide), Nat.add_comm]
theorem mask32 {n : Nat} (h : n < 2 ^ 64) : lN n &&& (4294967295 : Int64) = lN (n % 2 ^ 32) := wb_mask (k := 32) h (by decide)
theorem sign_natAbs (m n : Int) : m.sign * n.sign = (m * n).sign := (Int.sign_mul m n).symm
theorem holdP_ok (sg : Int32) (hi lo : Int64) (pl mo : Int32) {m n p : Int} (hm : m.natAbs < 2 ^ 54) (hn : n.natAbs < 2 ^ 54) : f_E_holdProduct sg hi lo pl mo (lI m) (lI n) (iI p) = some (iI (m * n).sign, hW (m.natAbs * n.natAbs), lW (m.natAbs * n.natAbs), iI p, bI false) := by
  unfold f_E_holdProduct
  rw [signum_ok (by omega) (by omega), signum_ok (by omega) (by omega), jabs_ok (by omega) (by omega), jabs_ok (by omega) (by omega)]
  generalize hx : m.natAbs = x at *
  generalize hy : n.natAbs = y at *
  rw [show (32 : Int32) = iI 32 from rfl, jushr_i (by omega) (by decide) (by decide), jushr_i (by omega) (by decide) (by decide), mask32 (by omega), mask32 (by omega)]
  show some (iI m.sign * iI n.sign, lN (x / 2 ^ 32) * lN (y / 2 ^ 32) + jushr (lN (x / 2 ^ 32) * lN (y % 2 ^ 32) + lN (x % 2 ^ 32) * lN (y / 2 ^ 32) + jushr (lN (x % 2 ^ 32) * lN (y % 2 ^ 32)) (iI 32)) (iI 32), lN x * lN y, iI p, (0 : Int32)) = _
  have b1 : x % 2 ^ 32 * (y % 2 ^ 32) < 2 ^ 32 * 2 ^ 32 := Nat.mul_lt_mul'' (Nat.mod_lt _ (by decide)) (Nat.mod_lt _ (by decide))
  have b2 : x / 2 ^ 32 * (y % 2 ^ 32) < 2 ^ 22 * 2 ^ 32 := Nat.mul_lt_mul'' (by omega) (Nat.mod_lt _ (by decide))
  have b3 : x % 2 ^ 32 * (y / 2 ^ 32) < 2 ^ 32 * 2 ^ 22 := Nat.mul_lt_mul'' (Nat.mod_lt _ (by decide)) (by omega)
  rw [iI_mul, sign_natAbs, lN_mul, lN_mul, lN_mul, lN_mul, lN_mul, jushr_i (show _ < 2 ^ 64 from b1) (by decide) (by decide), lN_add, lN_add]
  show some (_, lN _ + jushr (lN (x / 2 ^ 32 * (y % 2 ^ 32) + x % 2 ^ 32 * (y / 2 ^ 32) + x % 2 ^ 32 * (y % 2 ^ 32) / 2 ^ 32)) (iI 32), _) = _
  rw [jushr_i (by omega) (by decide) (by decide), lN_add]
  show some (_, lN (_ + _ / 2 ^ 32), _) = _
  rw [prod_hi hm hn, wb_mod (x * y)]
  rfl
theorem lift_up {V : Nat} {p : Int} (mo : Int32) (h : bl V ≤ 126) : f_E_lift (hW V) (lW V) (iI p) mo = some (hW (V * 2 ^ (126 - bl V)), lW (V * 2 ^ (126 - bl V)), iI (p - (126 - bl V)), mo) := by
  have hV : V < 2 ^ 126 := bl_le_iff.mp h
  have hlt : V * 2 ^ (126 - bl V) < 2 ^ 126 := by
    have := Nat.mul_lt_mul_of_pos_right (bl_lt V) (Nat.two_pow_pos (126 - bl V))
    rwa [← Nat.pow_add, show bl V + (126 - bl V) = 126 by omega] at this
  unfold f_E_lift
  rw [len_ok (by omega)]
  show (if 0 ≤ ((126 : Int32) - iI (bl V)) then _ else _) = _
  rw [show (126 : Int32) = iI 126 from rfl, iI_sub, if_pos ((iI_ge0 (by omega) (by omega)).mpr (by omega)), sU_ok (by omega) (by omega) (by rw [show ((126 : Int) - (bl V : Int)).toNat = 126 - bl V by omega]; omega)]
  rw [show ((126 : Int) - (bl V : Int)).toNat = 126 - bl V by omega]
  rfl
theorem lift_dn {V : Nat} {p : Int} {s : Bool} (hV : V < 2 ^ 128) (h : 126 < bl V) : f_E_lift (hW V) (lW V) (iI p) (bI s) = some (hW (V / 2 ^ (bl V - 126)), lW (V / 2 ^ (bl V - 126)), iI (p + (bl V - 126)), bI (s || decide (V % 2 ^ (bl V - 126) ≠ 0))) := by
  have hb := bl128 hV
  unfold f_E_lift
  rw [len_ok hV]
  show (if 0 ≤ ((126 : Int32) - iI (bl V)) then _ else Option.bind (f_E_shiftDown _ _ _ _ (-((126 : Int32) - iI (bl V)))) _) = _
  rw [show (126 : Int32) = iI 126 from rfl, iI_sub, if_neg (fun q => by have := (iI_ge0 (by omega) (by omega)).mp q; omega), iI_neg, sD_ok hV (by omega) (by omega)]
  rw [show (-((126 : Int) - (bl V : Int))).toNat = bl V - 126 by omega, show -((126 : Int) - (bl V : Int)) = (bl V : Int) - 126 by omega]
  rfl
def ordv (p1 : Int) (V1 : Nat) (s1 : Bool) (p2 : Int) (V2 : Nat) (s2 : Bool) : Int := if p1 = p2 then (if V1 = V2 then (if s1 = s2 then 0 else if s1 = true then 1 else -1) else if V1 < V2 then -1 else 1) else if p1 < p2 then -1 else 1
theorem size_ok {hi1 lo1 hi2 lo2 : Int64} {pl1 mo1 pl2 mo2 : Int32} {V1 V2 : Nat} {p1 p2 : Int} {s1 s2 : Bool} (hT : f_E_lift hi1 lo1 pl1 mo1 = some (hW V1, lW V1, iI p1, bI s1)) (hU : f_E_lift hi2 lo2 pl2 mo2 = some (hW V2, lW V2, iI p2, bI s2)) (h1 : V1 < 2 ^ 127) (h2 : V2 < 2 ^ 127) (q1 : -100000 < p1) (q2 : p1 < 100000) (q3 : -100000 < p2) (q4 : p2 < 100000) :
    f_E_sizeOrder hi1 lo1 pl1 mo1 hi2 lo2 pl2 mo2 = some (iI (ordv p1 V1 s1 p2 V2 s2), hW V1, lW V1, iI p1, bI s1, hW V2, lW V2, iI p2, bI s2) := by
  unfold f_E_sizeOrder
  rw [hT, hU]
  simp only [Option.bind_some]
  have e1 := Nat.div_add_mod V1 (2 ^ 64)
  have e2 := Nat.div_add_mod V2 (2 ^ 64)
  have l1 := lW_lt V1
  have l2 := lW_lt V2
  have g1 : V1 / 2 ^ 64 < 2 ^ 63 := by omega
  have g2 : V2 / 2 ^ 64 < 2 ^ 63 := by omega
  unfold ordv
  by_cases hp : p1 = p2
  · subst hp
    rw [if_pos rfl, if_pos rfl]
    by_cases hh : V1 / 2 ^ 64 = V2 / 2 ^ 64
    · rw [if_pos ((lg_cmp_eq _ _).mpr (by unfold hW; rw [hh]))]
      by_cases hl : V1 % 2 ^ 64 = V2 % 2 ^ 64
      · have hV : V1 = V2 := by omega
        rw [if_pos ((lg_cmp_eq _ _).mpr (by unfold lW; rw [hl])), if_pos hV]
        cases s1 <;> cases s2 <;> rfl
      · have hV : ¬ V1 = V2 := fun z => hl (by rw [z])
        rw [if_neg (show ¬ lg_cmp (lW V1) (lW V2) = 0 from fun z => hl ((lN_e l1 l2).mp ((lg_cmp_eq _ _).mp z))), if_neg hV]
        have hc : f_J_compareUnsigned (lW V1) (lW V2) = _ := cmpU_ok l1 l2
        rw [hc]
        simp only [Option.bind_some]
        by_cases hlt : V1 % 2 ^ 64 < V2 % 2 ^ 64
        · rw [if_pos hlt, if_neg (by decide), if_pos (by omega)]; rfl
        · rw [if_neg hlt, if_neg hl, if_pos (by decide), if_neg (by omega)]; rfl
    · have hV : ¬ V1 = V2 := fun z => hh (by rw [z])
      rw [if_neg (show ¬ lg_cmp (hW V1) (hW V2) = 0 from fun z => hh ((lN_e (by omega) (by omega)).mp ((lg_cmp_eq _ _).mp z))), if_neg hV]
      have hle : (0 ≤ lg_cmp (hW V1) (hW V2)) ↔ V2 / 2 ^ 64 ≤ V1 / 2 ^ 64 := by
        rw [lg_cmp_ge]; exact pk_lLE g2 g1
      by_cases hlt : V1 < V2
      · rw [if_neg (fun z => by have := hle.mp z; omega), if_pos hlt]; rfl
      · rw [if_pos (hle.mpr (by omega)), if_neg hlt]; rfl
  · rw [if_neg (fun z => hp ((iI_eq (by omega) (by omega) (by omega) (by omega)).mp z)), if_neg hp]
    by_cases hlt : p1 < p2
    · rw [if_neg (fun z => by have := (iI_le (by omega) (by omega) (by omega) (by omega)).mp z; omega), if_pos hlt]; rfl
    · rw [if_pos ((iI_le (by omega) (by omega) (by omega) (by omega)).mpr (by omega)), if_neg hlt]; rfl
