/-! PURE: the state, by signs and by values at the scale 2^-2000; X's put -/
def pz (v : Nat) : Int := if v = 0 then 0 else (bl v : Int) - 2053
def mz (ng : Bool) (v : Nat) : Int := if ng = true then -((v / 2 ^ (bl v - 53) : Nat) : Int) else ((v / 2 ^ (bl v - 53) : Nat) : Int)
abbrev inr (v : Nat) : Prop := v = 0 ∨ (1901 ≤ bl v ∧ bl v ≤ 2100)
def vok (v : Nat) : Prop := v = 0 ∨ (1901 ≤ bl v ∧ bl v ≤ 2100 ∧ v % 2 ^ (bl v - 53) = 0)
def clM (ng : Nat → Bool) (vv : Nat → Nat) : Nat → Int64 := fun i => lI (mz (ng i) (vv i))
def clP (vv : Nat → Nat) : Nat → Int32 := fun i => iI (pz (vv i))
theorem mz_0 (ng : Bool) : mz ng 0 = 0 := by cases ng <;> rfl
theorem isReg_ok (a : Int32) : f_X_isRegister a = some (bI (decide (0 ≤ a.toInt ∧ a.toInt < 8))) := by
  unfold f_X_isRegister
  have e1 : (a < 0) ↔ a.toInt < 0 := by rw [Int32.lt_iff_toInt_lt, Int32.toInt_zero]
  have e2 : ((8 : Int32) ≤ a) ↔ 8 ≤ a.toInt := by rw [Int32.le_iff_toInt_le]; rfl
  by_cases h1 : a.toInt < 0
  · rw [if_pos (e1.mpr h1), decide_eq_false (by omega)]; rfl
  · rw [if_neg (fun q => h1 (e1.mp q))]
    by_cases h2 : 8 ≤ a.toInt
    · rw [if_pos (e2.mpr h2), decide_eq_false (by omega)]; rfl
    · rw [if_neg (fun q => h2 (e2.mp q)), decide_eq_true (by omega)]; rfl
theorem bitL_ok {n : Nat} (h : n < 2 ^ 64) : f_X_bitLength (lN n) = some (iI (bl n)) := by
  unfold f_X_bitLength
  rw [nlz_ok h]
  show some ((64 : Int32) - iI _) = _
  rw [show (64 : Int32) = iI 64 from rfl, iI_sub]; congr 2; omega
theorem isNum_ok {m e : Int} (hm : m.natAbs < 2 ^ 62) (he1 : -100000 < e) (he2 : e < 100000) : f_X_isNumber (lI m) (iI e) = some (bI (decide (m = 0 ∨ (-100 ≤ e + bl m.natAbs - 1 ∧ e + bl m.natAbs - 1 < 100)))) := by
  unfold f_X_isNumber
  have hb : bl m.natAbs ≤ 62 := bl_le_iff.mpr hm
  rw [jabs_ok (by omega) (by omega), bitL_ok (by omega)]
  simp only [Option.bind_some]
  rw [show (1 : Int32) = bI true from rfl, show (0 : Int32) = bI false from rfl]
  have hz : lg_cmp (lI m) (0 : Int64) = bI false ↔ m = 0 := by
    show lg_cmp (lI m) (0 : Int64) = 0 ↔ m = 0
    rw [lg_cmp_eq]; exact lI_eq (b := 0) (by omega) (by omega) (by decide) (by decide)
  by_cases h0 : m = 0
  · rw [if_pos (hz.mpr h0), decide_eq_true (Or.inl h0)]
  · rw [if_neg (fun q => h0 (hz.mp q)), show bI true = iI 1 from rfl, iI_add, iI_sub, show (100 : Int32) = iI 100 from rfl, iI_neg]
    by_cases h1 : e + bl m.natAbs - 1 < -100
    · rw [if_pos ((iI_lt (by omega) (by omega) (by decide) (by decide)).mpr h1), decide_eq_false (by omega)]
    · rw [if_neg (fun q => h1 ((iI_lt (by omega) (by omega) (by decide) (by decide)).mp q))]
      by_cases h2 : 100 ≤ e + bl m.natAbs - 1
      · rw [if_pos ((iI_le (by decide) (by decide) (by omega) (by omega)).mpr h2), decide_eq_false (by omega)]
      · rw [if_neg (fun q => h2 ((iI_le (by decide) (by decide) (by omega) (by omega)).mp q)), decide_eq_true (Or.inr (by omega))]; rfl
theorem in8 {d : Nat} (h : d < 8) : ¬ (nI d < 0 ∨ 8 ≤ (nI d).toNatClampNeg) := nI_in h (by decide)
theorem cl8 {d : Nat} (h : d < 8) : (nI d).toNatClampNeg = d := nI_clamp (by omega)
/-- the value that (n, e) names -/
def val (n : Nat) (e : Int) : Nat := n * 2 ^ (e + 2000).toNat
theorem val_0 {n : Nat} {e : Int} : val n e = 0 ↔ n = 0 := by
  unfold val
  have := Nat.two_pow_pos (e + 2000).toNat
  constructor
  · intro z; rcases Nat.mul_eq_zero.mp z with y | y <;> omega
  · intro z; rw [z, Nat.zero_mul]
theorem val_bl {n : Nat} {e : Int} (h : n ≠ 0) : bl (val n e) = bl n + (e + 2000).toNat := bl_mul _ _ h
theorem val_mz {n : Nat} {e : Int} {ng : Bool} (hn : n ≤ 2 ^ 53) (h0 : n ≠ 0) (he : -1900 ≤ e) : mz ng (val n e) = (if ng = true then -1 else 1) * (if bl n ≤ 53 then ((n * 2 ^ (53 - bl n) : Nat) : Int) else ((n / 2 : Nat) : Int)) := by
  have hb : bl n ≤ 54 := bl_le_iff.mpr (by omega)
  have hp := bl_pos h0
  have e1 : val n e / 2 ^ (bl (val n e) - 53) = if bl n ≤ 53 then n * 2 ^ (53 - bl n) else n / 2 := by
    rw [val_bl h0]; unfold val
    by_cases h : bl n ≤ 53
    · rw [if_pos h, mul_pow_div _ (by omega)]; congr 2; omega
    · rw [if_neg h, show bl n + (e + 2000).toNat - 53 = (e + 2000).toNat + 1 by omega, Nat.pow_succ, ← Nat.div_div_eq_div_mul, Nat.mul_div_cancel _ (Nat.two_pow_pos _)]
  unfold mz
  rw [e1]
  by_cases h : bl n ≤ 53
  · rw [if_pos h]; cases ng <;> simp [h]
  · rw [if_neg h]; cases ng <;> simp [h]
theorem store_54 {d : Nat} (hd : d < 8) {m e u : Int} {Mf : Nat → Int64} {Pf : Nat → Int32} {y : Int64} (hm : m.natAbs < 2 ^ 62) : f_X_store_54 (nI d) (lI m) (iI e) (iI u) y (nI d) Mf Pf = some (vp_updL Mf d y, upd Pf d (if m = 0 then 0 else iI (e - u))) := by
  unfold f_X_store_54
  have hz : lg_cmp (lI m) (0 : Int64) = 0 ↔ m = 0 := by
    rw [lg_cmp_eq]; exact lI_eq (b := 0) (by omega) (by omega) (by decide) (by decide)
  rw [if_neg (in8 hd), if_neg (in8 hd), if_neg (in8 hd), cl8 hd, iI_sub]
  by_cases h : m = 0
  · rw [if_pos (hz.mpr h), if_pos h]
  · rw [if_neg (fun q => h (hz.mp q)), if_neg h]
theorem store_33 {d : Nat} (hd : d < 8) {m e u : Int} {Mf : Nat → Int64} {Pf : Nat → Int32} {n : Nat} (hm : m.natAbs < 2 ^ 62) : f_X_store_33 (nI d) (lI m) (iI e) (iI u) (lN n) Mf Pf = some (vp_updL Mf d (lI (if m < 0 then -(n : Int) else n)), upd Pf d (if m = 0 then 0 else iI (e - u))) := by
  unfold f_X_store_33
  have hz : (0 ≤ lg_cmp (lI m) (0 : Int64)) ↔ 0 ≤ m := by
    rw [lg_cmp_ge]; exact lI_le (a := 0) (by decide) (by decide) (by omega) (by omega)
  by_cases h : 0 ≤ m
  · rw [if_pos (hz.mpr h), store_54 hd hm, if_neg (show ¬ m < 0 by omega), lI_lN]
  · rw [if_neg (fun q => h (hz.mp q)), store_54 hd hm, if_pos (show m < 0 by omega), ← lI_lN, lI_neg]
theorem store_ok {d : Nat} (hd : d < 8) {ng : Bool} {n : Nat} {e : Int} {Mf : Nat → Int64} {Pf : Nat → Int32} (hn : n ≤ 2 ^ 53) (he1 : n ≠ 0 → -1900 ≤ e) (he2 : e < 100000) :
    f_X_store Mf Pf (nI d) (lI (if ng = true then -(n : Int) else n)) (iI e) = some (vp_updL Mf d (lI (mz ng (val n e))), upd Pf d (iI (pz (val n e)))) := by
  have hab : (if ng = true then -(n : Int) else n).natAbs = n := by cases ng <;> simp
  have hb : bl n ≤ 54 := bl_le_iff.mpr (by omega)
  unfold f_X_store
  rw [jabs_ok (by cases ng <;> simp <;> omega) (by cases ng <;> simp <;> omega), hab, bitL_ok (by omega)]
  simp only [Option.bind_some]
  rw [show (53 : Int32) = iI 53 from rfl, iI_sub]
  by_cases h0 : n = 0
  · subst h0
    rw [if_pos (by decide), show (53 : Int) - ((bl 0 : Nat) : Int) = 53 from rfl, jshl_i _ (by decide) (by decide), store_33 hd (by cases ng <;> decide)]
    rw [show val 0 e = 0 from Nat.zero_mul _, mz_0]
    cases ng <;> rfl
  · have hv0 : ¬ val n e = 0 := fun z => h0 (val_0.mp z)
    have hne : ¬ (if ng = true then -(n : Int) else n) = 0 := by cases ng <;> simp <;> omega
    have he1 := he1 h0
    have hpz : pz (val n e) = e - (53 - bl n) := by
      unfold pz; rw [if_neg hv0, val_bl h0]; omega
    rw [val_mz hn h0 he1, hpz]
    have hp := bl_pos h0
    by_cases h : bl n ≤ 53
    · rw [if_pos ((iI_ge0 (by omega) (by omega)).mpr (by omega)), jshl_i _ (by omega) (by omega), store_33 hd (by rw [hab]; omega), if_neg hne, if_pos h, show ((53 : Int) - (bl n : Int)).toNat = 53 - bl n by omega]
      cases ng
      · have : ¬ ((n : Int) < 0) := by omega
        show some (vp_updL Mf d (lI (if (n : Int) < 0 then _ else _)), _) = some (vp_updL Mf d (lI (1 * _)), _)
        rw [if_neg this, Int.one_mul]
      · have : -(n : Int) < 0 := by omega
        show some (vp_updL Mf d (lI (if -(n : Int) < 0 then _ else _)), _) = some (vp_updL Mf d (lI (-1 * _)), _)
        rw [if_pos this, Int.neg_mul, Int.one_mul]
    · have hge : (1 : Int64) = lN 1 := rfl
      rw [if_neg (fun q => h (by have := (iI_ge0 (by omega) (by omega)).mp q; omega)), show (1 : Int32) = iI 1 from rfl, jshr_i (by omega) (by decide) (by decide), store_33 hd (by rw [hab]; omega), if_neg hne, if_neg h]
      show some (vp_updL Mf d (lI (if (if ng = true then -(n : Int) else n) < 0 then -((n / 2 : Nat) : Int) else ((n / 2 : Nat) : Int))), _) = _
      cases ng
      · have : ¬ ((n : Int) < 0) := by omega
        show some (vp_updL Mf d (lI (if (n : Int) < 0 then _ else _)), _) = some (vp_updL Mf d (lI (1 * _)), _)
        rw [if_neg this, Int.one_mul]
      · have : -(n : Int) < 0 := by omega
        show some (vp_updL Mf d (lI (if -(n : Int) < 0 then _ else _)), _) = some (vp_updL Mf d (lI (-1 * _)), _)
        rw [if_pos this, Int.neg_mul, Int.one_mul]
theorem put_ok {d : Nat} (hd : d < 8) {ng : Bool} {n : Nat} {e c : Int} {lo ro rk : Int32} {Mf : Nat → Int64} {Pf : Nat → Int32} (hn : n ≤ 2 ^ 53) (he1 : -1990 ≤ e) (he2 : e < 10000) (hc : c = -1 ∨ c = 0 ∨ c = 1) :
    f_X_put lo ro rk Mf Pf (nI d) (lI (if ng = true then -(n : Int) else n)) (iI e) (iI c) = if inr (val n e) then some (0, iI c, (if c = 0 then ro else ro + 1), rk, vp_updL Mf d (lI (mz ng (val n e))), upd Pf d (iI (pz (val n e)))) else some (-2, lo, ro, rk + 1, Mf, Pf) := by
  have hab : (if ng = true then -(n : Int) else n).natAbs = n := by cases ng <;> simp
  have hb : bl n ≤ 54 := bl_le_iff.mpr (by omega)
  have hz : (if ng = true then -(n : Int) else n) = 0 ↔ n = 0 := by cases ng <;> simp
  have hin : ((if ng = true then -(n : Int) else n) = 0 ∨ (-100 ≤ e + bl n - 1 ∧ e + bl n - 1 < 100)) ↔ inr (val n e) := by
    unfold inr
    rw [hz, val_0]
    by_cases h0 : n = 0
    · simp [h0]
    · rw [val_bl h0]
      constructor <;> rintro (q | q)
      · exact Or.inl q
      · exact Or.inr (by omega)
      · exact Or.inl q
      · exact Or.inr (by omega)
  unfold f_X_put
  rw [isNum_ok (by rw [hab]; omega) (by omega) (by omega), hab]
  simp only [Option.bind_some]
  by_cases h : inr (val n e)
  · rw [if_pos h, decide_eq_true (hin.mpr h), if_neg (show ¬ bI true = 0 by decide)]
    rw [store_ok hd hn (fun h0 => by
      have := hin.mpr h
      rw [hz] at this
      rcases this with q | q
      · exact absurd q h0
      · omega) (by omega)]
    simp only [Option.bind_some]
    have hc0 : iI c = 0 ↔ c = 0 := iI_eq0 (by omega) (by omega)
    by_cases c0 : c = 0
    · rw [if_pos (hc0.mpr c0), if_pos c0]
    · rw [if_neg (fun q => c0 (hc0.mp q)), if_neg c0]
  · rw [if_neg h, decide_eq_false (fun q => h (hin.mp q)), if_pos (show bI false = 0 from rfl)]
    rfl
