/-! PURE: Exact: V is high * 2^64 + low -/
theorem iI_pos {z : Int} (h1 : -2147483648 ≤ z) (h2 : z < 2147483648) : (0 : Int32) < iI z ↔ 0 < z := iI_lt (a := 0) (by decide) (by decide) h1 h2
theorem iI_ge0 {z : Int} (h1 : -2147483648 ≤ z) (h2 : z < 2147483648) : (0 : Int32) ≤ iI z ↔ 0 ≤ z := iI_le (a := 0) (by decide) (by decide) h1 h2
theorem iI_lt0 {z : Int} (h1 : -2147483648 ≤ z) (h2 : z < 2147483648) : iI z < 0 ↔ z < 0 := iI_lt (b := 0) h1 h2 (by decide) (by decide)
theorem iI_le0 {z : Int} (h1 : -2147483648 ≤ z) (h2 : z < 2147483648) : iI z ≤ 0 ↔ z ≤ 0 := iI_le (b := 0) h1 h2 (by decide) (by decide)
theorem iI_eq0 {z : Int} (h1 : -2147483648 ≤ z) (h2 : z < 2147483648) : iI z = 0 ↔ z = 0 := iI_eq (b := 0) h1 h2 (by decide) (by decide)
def hW (V : Nat) : Int64 := lN (V / 2 ^ 64)
def lW (V : Nat) : Int64 := lN (V % 2 ^ 64)
theorem or_bI (a b : Bool) : bI a ||| bI b = bI (a || b) := by cases a <;> cases b <;> decide
theorem cz {n : Nat} (h : n < 2 ^ 64) : lg_cmp (lN n) (0 : Int64) = 0 ↔ n = 0 := by rw [lg_cmp_eq]; exact lN_e0 h
theorem lW_lt (V : Nat) : V % 2 ^ 64 < 2 ^ 64 := Nat.mod_lt _ (by decide)
theorem hW_lt {V : Nat} (h : V < 2 ^ 128) : V / 2 ^ 64 < 2 ^ 64 := by
  rw [Nat.div_lt_iff_lt_mul (by decide), ← Nat.pow_add]; exact h
theorem bl128 {V : Nat} (h : V < 2 ^ 128) : bl V ≤ 128 := bl_le_iff.mpr h
theorem len_ok {V : Nat} (h : V < 2 ^ 128) : f_E_length (hW V) (lW V) = some (iI (bl V)) := by
  unfold f_E_length hW lW
  by_cases hh : V / 2 ^ 64 = 0
  · have hV : V % 2 ^ 64 = V := Nat.mod_eq_of_lt (by omega)
    rw [if_pos ((cz (hW_lt h)).mpr hh), nlz_ok (lW_lt V), hV]
    show some ((64 : Int32) - iI _) = _
    rw [show (64 : Int32) = iI 64 from rfl, iI_sub]; congr 2; omega
  · rw [if_neg (fun q => hh ((cz (hW_lt h)).mp q)), nlz_ok (hW_lt h), bl_div]
    show some ((128 : Int32) - iI _) = _
    have h64 : 64 < bl V := bl_lt_iff.mpr (by omega)
    rw [show (128 : Int32) = iI 128 from rfl, iI_sub]; congr 2; omega
theorem sU_ok {V : Nat} {p k : Int} (hk : 0 ≤ k) (hk2 : k < 128) (h : V * 2 ^ k.toNat < 2 ^ 128) : f_E_shiftUp (hW V) (lW V) (iI p) (iI k) = some (hW (V * 2 ^ k.toNat), lW (V * 2 ^ k.toNat), iI (p - k)) := by
  unfold f_E_shiftUp
  have hV : V < 2 ^ 128 := Nat.lt_of_le_of_lt (Nat.le_mul_of_pos_right _ (Nat.two_pow_pos _)) h
  rw [show (64 : Int32) = iI 64 from rfl, iI_sub, iI_sub, iI_sub]
  by_cases h1 : k < 64
  · rw [if_pos ((iI_lt (by omega) (by omega) (by decide) (by decide)).mpr h1)]
    by_cases h2 : k ≤ 0
    · have : k = 0 := by omega
      subst this
      rw [if_pos (by decide)]
      show _ = some (hW (V * 2 ^ 0), lW (V * 2 ^ 0), _)
      rw [Nat.pow_zero, Nat.mul_one]
    · rw [if_neg (fun q => h2 ((iI_le0 (by omega) (by omega)).mp q))]
      unfold hW lW
      rw [jshl_i _ hk h1, jshl_i _ hk h1, jushr_i (lW_lt V) (by omega) (by omega)]
      obtain ⟨n, rfl⟩ : ∃ n : Nat, k = (n : Int) := ⟨k.toNat, by omega⟩
      rw [show ((64 : Int) - (n : Int)).toNat = 64 - n by omega, Int.toNat_natCast] at *
      have hn : n < 64 := by omega
      have hp : (2 : Nat) ^ 64 = 2 ^ (64 - n) * 2 ^ n := by rw [← Nat.pow_add]; congr 1; omega
      have ha : V % 2 ^ 64 / 2 ^ (64 - n) < 2 ^ n := by
        rw [Nat.div_lt_iff_lt_mul (Nat.two_pow_pos _), Nat.mul_comm, ← hp]; exact lW_lt V
      have hdec : V * 2 ^ n = (V / 2 ^ 64 * 2 ^ n) * 2 ^ 64 + V % 2 ^ 64 * 2 ^ n := by
        have := Nat.div_add_mod V (2 ^ 64)
        rw [Nat.mul_right_comm, ← Nat.add_mul, Nat.mul_comm (V / 2 ^ 64), this]
      have hl : V % 2 ^ 64 * 2 ^ n / 2 ^ 64 = V % 2 ^ 64 / 2 ^ (64 - n) := by
        rw [hp, Nat.mul_div_mul_right _ _ (Nat.two_pow_pos n), ← hp]
      have hsum : V * 2 ^ n / 2 ^ 64 = V / 2 ^ 64 * 2 ^ n + V % 2 ^ 64 / 2 ^ (64 - n) := by
        rw [hdec, Nat.add_comm, Nat.add_mul_div_right _ _ (by decide), hl, Nat.add_comm]
      have hlt : V / 2 ^ 64 * 2 ^ n + V % 2 ^ 64 / 2 ^ (64 - n) < 2 ^ 64 := by rw [← hsum]; exact hW_lt h
      rw [g_or (k := n) rfl ha hlt, ← hsum]
      have hlow : V * 2 ^ n % 2 ^ 64 = V % 2 ^ 64 * 2 ^ n % 2 ^ 64 := by rw [hdec, Nat.add_comm, Nat.add_mul_mod_self_right]
      rw [hlow, ← wb_mod]
  · rw [if_neg (fun q => h1 ((iI_lt (by omega) (by omega) (by decide) (by decide)).mp q))]
    obtain ⟨n, rfl⟩ : ∃ n : Nat, k = (n : Int) := ⟨k.toNat, by omega⟩
    rw [Int.toNat_natCast] at *
    have hn : 64 ≤ n := by omega
    have hV2 : V < 2 ^ 64 := by
      have h3 : V * 2 ^ 64 ≤ V * 2 ^ n := Nat.mul_le_mul_left _ (Nat.pow_le_pow_right (by decide) hn)
      omega
    unfold hW lW
    rw [Nat.mod_eq_of_lt hV2, jshl_i _ (by omega) (by omega), mul_pow_div V hn, mul_pow_mod V hn, show ((n : Int) - 64).toNat = n - 64 by omega]
    rfl
theorem sD_none {hi lo : Int64} {pl mo : Int32} {k : Int} (hk : k ≤ 0) (hk2 : -2147483648 ≤ k) : f_E_shiftDown hi lo pl mo (iI k) = some (hi, lo, pl, mo) := by
  unfold f_E_shiftDown
  rw [if_neg (fun q => by have := (iI_lt (a := 0) (by decide) (by decide) hk2 (by omega)).mp q; omega)]
theorem sD_40 {hi lo : Int64} {p k : Int} (a b : Bool) {mo : Int32} : f_E_shiftDown_40 (iI k) (bI b) (bI a) hi lo (iI p) mo = some (0, 0, iI (p + k), bI (a || b)) := by
  unfold f_E_shiftDown_40; rw [or_bI, if_pos (bI_01 _), iI_add]
theorem sD_97 {hi lo : Int64} {p k : Int} (a b : Bool) {mo : Int32} : f_E_shiftDown_97 (iI k) (bI b) (bI a) hi lo (iI p) mo = some (0, jushr hi (iI (k - 64)), iI (p + k), bI (a || b)) := by
  unfold f_E_shiftDown_97; rw [or_bI, if_pos (bI_01 _), iI_add, show (64 : Int32) = iI 64 from rfl, iI_sub]
theorem sD_147 {hi lo : Int64} {p k : Int} (a b : Bool) {mo : Int32} : f_E_shiftDown_147 (iI k) (bI b) (bI a) hi lo (iI p) mo = some (0, hi, iI (p + k), bI (a || b)) := by
  unfold f_E_shiftDown_147; rw [or_bI, if_pos (bI_01 _), iI_add]
theorem sD_191 {hi lo : Int64} {p k : Int} (a b : Bool) {mo : Int32} : f_E_shiftDown_191 (iI k) (bI b) (bI a) hi lo (iI p) mo = some (jushr hi (iI k), (jushr lo (iI k) ||| jshl hi (iI (64 - k))), iI (p + k), bI (a || b)) := by
  unfold f_E_shiftDown_191; rw [or_bI, if_pos (bI_01 _), iI_add, show (64 : Int32) = iI 64 from rfl, iI_sub]
theorem sh_mod (h a b : Nat) : h * 2 ^ a % 2 ^ (a + b) = (h % 2 ^ b) * 2 ^ a := by
  rw [Nat.add_comm, Nat.pow_add, Nat.mul_mod_mul_right]
theorem sh_zero {h a b : Nat} (hab : a + b = 64) : lN (h * 2 ^ a) = 0 ↔ h % 2 ^ b = 0 := by
  rw [wb_mod, lN_e0 (lW_lt _), ← hab, sh_mod]
  have := Nat.two_pow_pos a
  constructor
  · intro q; rcases Nat.mul_eq_zero.mp q with z | z <;> omega
  · intro q; rw [q, Nat.zero_mul]
theorem sD_ok {V : Nat} {p k : Int} {s : Bool} (h : V < 2 ^ 128) (hk : 0 < k) (hk2 : k < 100000) : f_E_shiftDown (hW V) (lW V) (iI p) (bI s) (iI k) = some (hW (V / 2 ^ k.toNat), lW (V / 2 ^ k.toNat), iI (p + k), bI (s || decide (V % 2 ^ k.toNat ≠ 0))) := by
  obtain ⟨n, rfl⟩ : ∃ n : Nat, k = (n : Int) := ⟨k.toNat, by omega⟩
  rw [Int.toNat_natCast]
  unfold f_E_shiftDown
  rw [show (128 : Int32) = iI 128 from rfl, show (64 : Int32) = iI 64 from rfl, show (1 : Int32) = bI true from rfl]
  rw [if_pos ((iI_pos (by omega) (by omega)).mpr hk)]
  have hdm := Nat.div_add_mod V (2 ^ 64)
  by_cases h128 : n < 128
  · rw [if_pos ((iI_lt (by omega) (by omega) (by decide) (by decide)).mpr (by omega))]
    by_cases h64 : n ≤ 64
    · rw [if_pos ((iI_le (by omega) (by omega) (by decide) (by decide)).mpr (by omega))]
      by_cases he : n = 64
      · subst he
        rw [if_pos (show iI ((64 : Nat) : Int) = iI 64 from rfl)]
        have hd : V / 2 ^ 64 / 2 ^ 64 = 0 := Nat.div_eq_of_lt (hW_lt h)
        have hm : V / 2 ^ 64 % 2 ^ 64 = V / 2 ^ 64 := Nat.mod_eq_of_lt (hW_lt h)
        unfold hW lW
        rw [hd, hm]
        by_cases hl : V % 2 ^ 64 = 0
        · rw [if_pos ((cz (lW_lt V)).mpr hl), show (0 : Int32) = bI false from rfl, sD_147, show decide (V % 2 ^ 64 ≠ 0) = false from decide_eq_false (fun z => z hl)]; rfl
        · rw [if_neg (fun q => hl ((cz (lW_lt V)).mp q)), sD_147, show decide (V % 2 ^ 64 ≠ 0) = true from decide_eq_true hl]; rfl
      · rw [if_neg (fun q => he (by have := (iI_eq (by omega) (by omega) (by decide) (by decide)).mp q; omega)), iI_sub]
        have hn : n < 64 := by omega
        unfold hW lW
        rw [jshl_i _ (by omega) (by omega), show ((64 : Int) - (n : Int)).toNat = 64 - n by omega]
        have hm1 : V % 2 ^ 64 % 2 ^ n = V % 2 ^ n := by
          rw [show (2 : Nat) ^ 64 = 2 ^ n * 2 ^ (64 - n) by rw [← Nat.pow_add]; congr 1; omega, Nat.mod_mul_right_mod]
        have hz := sh_zero (h := V % 2 ^ 64) (show (64 - n) + n = 64 by omega)
        rw [hm1] at hz
        have hlo : jushr (lN (V % 2 ^ 64)) (iI n) ||| jshl (lN (V / 2 ^ 64)) (iI (64 - n)) = lN (V / 2 ^ n % 2 ^ 64) := by
          rw [jushr_i (lW_lt V) (by omega) (by omega), jshl_i _ (by omega) (by omega), show ((64 : Int) - (n : Int)).toNat = 64 - n by omega, Int.toNat_natCast, wb_mod (V / 2 ^ 64 * _)]
          have e1 : V / 2 ^ 64 * 2 ^ (64 - n) % 2 ^ 64 = V / 2 ^ 64 % 2 ^ n * 2 ^ (64 - n) := by
            have := sh_mod (V / 2 ^ 64) (64 - n) n
            rw [show 64 - n + n = 64 by omega] at this; exact this
          have hp : (2 : Nat) ^ 64 = 2 ^ (64 - n) * 2 ^ n := by rw [← Nat.pow_add]; congr 1; omega
          have ha : V % 2 ^ 64 / 2 ^ n < 2 ^ (64 - n) := by
            rw [Nat.div_lt_iff_lt_mul (Nat.two_pow_pos _), ← hp]; exact lW_lt V
          have e2 : V / 2 ^ n % 2 ^ 64 = V % 2 ^ 64 / 2 ^ n + V / 2 ^ 64 % 2 ^ n * 2 ^ (64 - n) := by
            have hV : V = V % 2 ^ 64 + V / 2 ^ 64 * 2 ^ (64 - n) * 2 ^ n := by rw [Nat.mul_assoc, ← hp, Nat.add_comm, Nat.mul_comm]; exact hdm.symm
            have h3 : V / 2 ^ n = V % 2 ^ 64 / 2 ^ n + V / 2 ^ 64 * 2 ^ (64 - n) := by
              have h4 : V / 2 ^ n = (V % 2 ^ 64 + V / 2 ^ 64 * 2 ^ (64 - n) * 2 ^ n) / 2 ^ n := congrArg (· / 2 ^ n) hV
              rw [Nat.add_mul_div_right _ _ (Nat.two_pow_pos n)] at h4
              exact h4
            rw [h3, Nat.add_mod, e1, Nat.mod_eq_of_lt (Nat.lt_of_lt_of_le ha (Nat.pow_le_pow_right (by decide) (by omega)))]
            apply Nat.mod_eq_of_lt
            have h5 : V / 2 ^ 64 % 2 ^ n + 1 ≤ 2 ^ n := Nat.mod_lt _ (Nat.two_pow_pos n)
            have h6 := Nat.mul_le_mul_right (2 ^ (64 - n)) h5
            rw [Nat.add_mul, Nat.one_mul, Nat.mul_comm (2 ^ n), ← hp] at h6
            omega
          rw [e1, e2]
          exact g_or' (k := 64 - n) rfl ha (by rw [← e2]; exact lW_lt _)
        have hhi : jushr (lN (V / 2 ^ 64)) (iI n) = lN (V / 2 ^ n / 2 ^ 64) := by
          rw [jushr_i (hW_lt h) (by omega) (by omega), Int.toNat_natCast, Nat.div_div_eq_div_mul, Nat.div_div_eq_div_mul, Nat.mul_comm]
        by_cases hl : V % 2 ^ n = 0
        · rw [if_pos (by rw [lg_cmp_eq]; exact hz.mpr hl), show (0 : Int32) = bI false from rfl, sD_191, hlo, hhi, show decide (V % 2 ^ n ≠ 0) = false from decide_eq_false (fun z => z hl)]
        · rw [if_neg (fun q => hl (hz.mp ((lg_cmp_eq _ _).mp q))), sD_191, hlo, hhi, show decide (V % 2 ^ n ≠ 0) = true from decide_eq_true hl]
    · rw [if_neg (fun q => h64 (by have := (iI_le (by omega) (by omega) (by decide) (by decide)).mp q; omega)), iI_sub]
      obtain ⟨d, rfl⟩ : ∃ d, n = 64 + d := ⟨n - 64, by omega⟩
      have hd : V / 2 ^ (64 + d) = V / 2 ^ 64 / 2 ^ d := cut_div V 64 d
      have hm : V % 2 ^ (64 + d) = V % 2 ^ 64 + 2 ^ 64 * (V / 2 ^ 64 % 2 ^ d) := cut_mod V 64 d
      have hlt : V / 2 ^ 64 / 2 ^ d < 2 ^ 64 := Nat.lt_of_le_of_lt (Nat.div_le_self _ _) (hW_lt h)
      have hlo : jushr (lN (V / 2 ^ 64)) (iI (((64 + d : Nat) : Int) - 64)) = lN (V / 2 ^ 64 / 2 ^ d) := by
        rw [jushr_i (hW_lt h) (by omega) (by omega), show (((64 + d : Nat) : Int) - 64).toNat = d by omega]
      unfold hW lW
      rw [hd, Nat.div_eq_of_lt hlt, Nat.mod_eq_of_lt hlt, jshl_i _ (by omega) (by omega), show ((128 : Int) - ((64 + d : Nat) : Int)).toNat = 64 - d by omega]
      have hz := sh_zero (h := V / 2 ^ 64) (show (64 - d) + d = 64 by omega)
      by_cases hl : V % 2 ^ 64 = 0
      · rw [if_pos ((cz (lW_lt V)).mpr hl)]
        by_cases hh : V / 2 ^ 64 % 2 ^ d = 0
        · rw [if_pos (by rw [lg_cmp_eq]; exact hz.mpr hh), show (0 : Int32) = bI false from rfl, sD_97, hlo, show decide (V % 2 ^ (64 + d) ≠ 0) = false from decide_eq_false (fun z => z (by rw [hm, hl, hh]))]; rfl
        · rw [if_neg (fun q => hh (hz.mp ((lg_cmp_eq _ _).mp q))), sD_97, hlo, show decide (V % 2 ^ (64 + d) ≠ 0) = true from decide_eq_true (by rw [hm, hl]; have := Nat.mul_pos (show 0 < 2 ^ 64 by decide) (Nat.pos_of_ne_zero hh); omega)]; rfl
      · rw [if_neg (fun q => hl ((cz (lW_lt V)).mp q)), sD_97, hlo, show decide (V % 2 ^ (64 + d) ≠ 0) = true from decide_eq_true (by rw [hm]; omega)]; rfl
  · rw [if_neg (fun q => h128 (by have := (iI_lt (by omega) (by omega) (by decide) (by decide)).mp q; omega))]
    have hlt : V < 2 ^ n := Nat.lt_of_lt_of_le h (Nat.pow_le_pow_right (by decide) (by omega))
    rw [Nat.div_eq_of_lt hlt, Nat.mod_eq_of_lt hlt]
    unfold hW lW
    by_cases hh : V / 2 ^ 64 = 0
    · rw [if_pos ((cz (hW_lt h)).mpr hh)]
      by_cases hl : V % 2 ^ 64 = 0
      · have hV : V = 0 := by omega
        rw [if_pos ((cz (lW_lt V)).mpr hl), show (0 : Int32) = bI false from rfl, sD_40, hV]; rfl
      · have hV : V ≠ 0 := fun z => hl (by rw [z])
        rw [if_neg (fun q => hl ((cz (lW_lt V)).mp q)), sD_40, show decide (V ≠ 0) = true from decide_eq_true hV]; rfl
    · have hV : V ≠ 0 := fun z => hh (by rw [z])
      rw [if_neg (fun q => hh ((cz (hW_lt h)).mp q)), sD_40, show decide (V ≠ 0) = true from decide_eq_true hV]; rfl
