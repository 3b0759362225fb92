/-! PURE: ints and longs by their numbers; the JDK's functions -/
def iI (z : Int) : Int32 := Int32.ofInt z
def lI (z : Int) : Int64 := Int64.ofInt z
def bI (b : Bool) : Int32 := if b = true then 1 else 0
theorem bI_t : bI true = 1 := rfl
theorem bI_f : bI false = 0 := rfl
theorem bI_0 (b : Bool) : bI b = 0 ↔ b = false := by cases b <;> decide
theorem bI_1 (b : Bool) : bI b = 1 ↔ b = true := by cases b <;> decide
theorem bI_01 (b : Bool) : bI b = 0 ∨ bI b = 1 := by cases b <;> decide
theorem bI_inj (a b : Bool) : bI a = bI b ↔ a = b := by cases a <;> cases b <;> decide
theorem iI_t {z : Int} (h1 : -2147483648 ≤ z) (h2 : z < 2147483648) : (iI z).toInt = z := Int32.toInt_ofInt_of_le (by omega) (by omega)
theorem lI_t {z : Int} (h1 : -9223372036854775808 ≤ z) (h2 : z < 9223372036854775808) : (lI z).toInt = z := Int64.toInt_ofInt_of_le (by omega) (by omega)
theorem iI_add (a b : Int) : iI a + iI b = iI (a + b) := (Int32.ofInt_add a b).symm
theorem iI_sub (a b : Int) : iI a - iI b = iI (a - b) := (Int32.ofInt_sub a b).symm
theorem iI_mul (a b : Int) : iI a * iI b = iI (a * b) := (Int32.ofInt_mul a b).symm
theorem iI_neg (a : Int) : -iI a = iI (-a) := (Int32.ofInt_neg a).symm
theorem lI_add (a b : Int) : lI a + lI b = lI (a + b) := (Int64.ofInt_add a b).symm
theorem lI_sub (a b : Int) : lI a - lI b = lI (a - b) := (Int64.ofInt_sub a b).symm
theorem lI_mul (a b : Int) : lI a * lI b = lI (a * b) := (Int64.ofInt_mul a b).symm
theorem lI_neg (a : Int) : -lI a = lI (-a) := (Int64.ofInt_neg a).symm
theorem iI_nI (n : Nat) : iI (n : Int) = nI n := Int32.ofInt_eq_ofNat
theorem lI_lN (n : Nat) : lI (n : Int) = lN n := Int64.ofInt_eq_ofNat
theorem iI_N {z : Int} (h : 0 ≤ z) : iI z = nI z.toNat := by rw [← iI_nI]; congr 1; omega
theorem iI_lt {a b : Int} (a1 : -2147483648 ≤ a) (a2 : a < 2147483648) (b1 : -2147483648 ≤ b) (b2 : b < 2147483648) : iI a < iI b ↔ a < b := by
  rw [Int32.lt_iff_toInt_lt, iI_t a1 a2, iI_t b1 b2]
theorem iI_le {a b : Int} (a1 : -2147483648 ≤ a) (a2 : a < 2147483648) (b1 : -2147483648 ≤ b) (b2 : b < 2147483648) : iI a ≤ iI b ↔ a ≤ b := by
  rw [Int32.le_iff_toInt_le, iI_t a1 a2, iI_t b1 b2]
theorem iI_eq {a b : Int} (a1 : -2147483648 ≤ a) (a2 : a < 2147483648) (b1 : -2147483648 ≤ b) (b2 : b < 2147483648) : iI a = iI b ↔ a = b := by
  rw [← Int32.toInt_inj, iI_t a1 a2, iI_t b1 b2]
theorem lI_lt {a b : Int} (a1 : -9223372036854775808 ≤ a) (a2 : a < 9223372036854775808) (b1 : -9223372036854775808 ≤ b) (b2 : b < 9223372036854775808) : lI a < lI b ↔ a < b := by
  rw [Int64.lt_iff_toInt_lt, lI_t a1 a2, lI_t b1 b2]
theorem lI_le {a b : Int} (a1 : -9223372036854775808 ≤ a) (a2 : a < 9223372036854775808) (b1 : -9223372036854775808 ≤ b) (b2 : b < 9223372036854775808) : lI a ≤ lI b ↔ a ≤ b := by
  rw [Int64.le_iff_toInt_le, lI_t a1 a2, lI_t b1 b2]
theorem lI_eq {a b : Int} (a1 : -9223372036854775808 ≤ a) (a2 : a < 9223372036854775808) (b1 : -9223372036854775808 ≤ b) (b2 : b < 9223372036854775808) : lI a = lI b ↔ a = b := by
  rw [← Int64.toInt_inj, lI_t a1 a2, lI_t b1 b2]
theorem lN_e {a b : Nat} (ha : a < 2 ^ 64) (hb : b < 2 ^ 64) : lN a = lN b ↔ a = b := by
  constructor
  · intro h
    have h1 := congrArg (fun x : Int64 => x.toBitVec.toNat) h
    simpa [wb_tn ha, wb_tn hb] using h1
  · rintro rfl; rfl
theorem lN_e0 {a : Nat} (ha : a < 2 ^ 64) : lN a = 0 ↔ a = 0 := lN_e ha (by decide)
theorem lN_i32 (n : Nat) : (lN n).toInt32 = nI n := lN_i n
theorem jshl_i (n : Nat) {z : Int} (h0 : 0 ≤ z) (h1 : z < 64) : jshl (lN n) (iI z) = lN (n * 2 ^ z.toNat) := by
  rw [iI_N h0]; exact wb_shl n (by omega)
theorem jushr_i {n : Nat} (hn : n < 2 ^ 64) {z : Int} (h0 : 0 ≤ z) (h1 : z < 64) : jushr (lN n) (iI z) = lN (n / 2 ^ z.toNat) := by
  rw [iI_N h0]; exact wb_shr hn (by omega)
theorem jshr_i {n : Nat} (hn : n < 2 ^ 63) {z : Int} (h0 : 0 ≤ z) (h1 : z < 64) : jshr (lN n) (iI z) = lN (n / 2 ^ z.toNat) := by
  have hk : z.toNat < 64 := by omega
  rw [iI_N h0]
  unfold jshr
  rw [wb_c _ hk]
  generalize z.toNat = k at hk
  have hd : n / 2 ^ k ≤ n := Nat.div_le_self _ _
  apply Int64.toInt_inj.mp
  have hD : ((lN k).toBitVec.smod 64).toNat = k := by
    rw [wb_tb, wb_sm k hk, BitVec.toNat_ofNat]; omega
  have e : (lN n >>> lN k).toInt = (lN n).toInt >>> k := by
    show ((lN n).toBitVec.sshiftRight ((lN k).toBitVec.smod 64).toNat).toInt = _
    rw [hD, BitVec.toInt_sshiftRight]
    rfl
  rw [e, Int.shiftRight_eq_div_pow, pk_lT hn, pk_lT (by omega)]
  rfl
theorem jiushr_i {n : Nat} (hn : n < 2 ^ 32) {z : Int} (h0 : 0 ≤ z) (h1 : z < 32) : jiushr (nI n) (iI z) = nI (n / 2 ^ z.toNat) := by
  have hk : z.toNat < 32 := by omega
  rw [iI_N h0]
  unfold jiushr
  refine pk_ushrN hn _ _ ?_
  generalize z.toNat = k at hk
  have : ∀ k, k < 32 → (((nI k).toUInt32 &&& Int32.toUInt32 31).toBitVec % 32).toNat = k := by decide +kernel
  exact this k hk
theorem nI_t {n : Nat} (h : n < 2 ^ 32) : (nI n).toInt = if n < 2 ^ 31 then (n : Int) else (n : Int) - 2 ^ 32 := by
  have c := BitVec.toInt_eq_toNat_cond (nI n).toBitVec
  rw [pk_tn h] at c
  show (nI n).toBitVec.toInt = _
  rw [c]
  split <;> split <;> omega
/-- Integer.numberOfLeadingZeros -/
theorem nlz_s : ∀ x, x < 4 → 1 ≤ x → x / 2 = bl x - 1 ∧ 1 ≤ bl x := by decide
theorem nlz_61 {x : Nat} {y : Int} (h1 : 1 ≤ x) (h2 : x < 16) : f_J_nlzi_61 (nI x) (iI y) = some (iI (y - (bl x - 1))) := by
  unfold f_J_nlzi_61
  by_cases h : x < 4
  · have hs := nlz_s x h h1
    rw [if_pos ((show nI x < 4 ↔ x < 4 from nI_ltI (by omega) (by decide)).mpr h), show (1 : Int32) = iI 1 from rfl, jiushr_i (by omega) (by decide) (by decide), ← iI_nI, iI_sub]
    congr 2
    show y - ((x / 2 ^ 1 : Nat) : Int) = _
    rw [Nat.pow_one, hs.1]; omega
  · have h4 : x / 4 < 4 := by omega
    have hs := nlz_s (x / 4) h4 (by omega)
    have hb := bl_div x 2
    rw [if_neg (fun q => h ((show nI x < 4 ↔ x < 4 from nI_ltI (by omega) (by decide)).mp q)), show (2 : Int32) = iI 2 from rfl, show (1 : Int32) = iI 1 from rfl, iI_neg, jiushr_i (by omega) (by decide) (by decide), jiushr_i (by show x / 2 ^ 2 < _; omega) (by decide) (by decide), ← iI_nI, iI_add, iI_sub]
    congr 2
    show y + -2 - ((x / 2 ^ 2 / 2 ^ 1 : Nat) : Int) = _
    rw [show (2 : Nat) ^ 2 = 4 from rfl] at *
    rw [Nat.pow_one, hs.1, hb]; rw [hb] at hs; omega
theorem nlz_48 {x : Nat} {y : Int} (h1 : 1 ≤ x) (h2 : x < 256) : f_J_nlzi_48 (nI x) (iI y) = some (iI (y - (bl x - 1))) := by
  unfold f_J_nlzi_48
  by_cases h : x < 16
  · rw [if_pos ((show nI x < 16 ↔ x < 16 from nI_ltI (by omega) (by decide)).mpr h), nlz_61 h1 h]
  · have hb := bl_div x 4
    have hp := bl_pos (n := x / 2 ^ 4) (by show x / 16 ≠ 0; omega)
    rw [if_neg (fun q => h ((show nI x < 16 ↔ x < 16 from nI_ltI (by omega) (by decide)).mp q)), show (4 : Int32) = iI 4 from rfl, iI_neg, jiushr_i (by omega) (by decide) (by decide), iI_add]
    show f_J_nlzi_61 (nI (x / 2 ^ 4)) _ = _
    rw [nlz_61 (by show 1 ≤ x / 16; omega) (by show x / 16 < 16; omega), hb]
    congr 2; omega
theorem nlz_33 {x : Nat} {y : Int} (h1 : 1 ≤ x) (h2 : x < 65536) : f_J_nlzi_33 (nI x) (iI y) = some (iI (y - (bl x - 1))) := by
  unfold f_J_nlzi_33
  by_cases h : x < 256
  · rw [if_pos ((show nI x < 256 ↔ x < 256 from nI_ltI (by omega) (by decide)).mpr h), nlz_48 h1 h]
  · have hb := bl_div x 8
    have hp := bl_pos (n := x / 2 ^ 8) (by show x / 256 ≠ 0; omega)
    rw [if_neg (fun q => h ((show nI x < 256 ↔ x < 256 from nI_ltI (by omega) (by decide)).mp q)), show (8 : Int32) = iI 8 from rfl, iI_neg, jiushr_i (by omega) (by decide) (by decide), iI_add]
    show f_J_nlzi_48 (nI (x / 2 ^ 8)) _ = _
    rw [nlz_48 (by show 1 ≤ x / 256; omega) (by show x / 256 < 256; omega), hb]
    congr 2; omega
theorem nlzi_ok {n : Nat} (hn : n < 2 ^ 32) : f_J_nlzi (nI n) = some (iI (32 - bl n)) := by
  unfold f_J_nlzi
  have ht := nI_t hn
  by_cases h0 : n = 0
  · subst h0; decide
  · by_cases h31 : n < 2 ^ 31
    · have hpos : (0 : Int32) < nI n := by
        rw [Int32.lt_iff_toInt_lt, ht, if_pos h31, Int32.toInt_zero]; omega
      rw [if_pos hpos]
      by_cases h : n < 65536
      · rw [if_pos ((show nI n < 65536 ↔ n < 65536 from nI_ltI h31 (by decide)).mpr h), show (31 : Int32) = iI 31 from rfl, nlz_33 (by omega) h]
        congr 2; have := bl_pos h0; omega
      · have hb := bl_div n 16
        have hp := bl_pos (n := n / 2 ^ 16) (by show n / 65536 ≠ 0; omega)
        rw [if_neg (fun q => h ((show nI n < 65536 ↔ n < 65536 from nI_ltI h31 (by decide)).mp q)), show (31 : Int32) = iI 31 from rfl, show (16 : Int32) = iI 16 from rfl, iI_neg, jiushr_i hn (by decide) (by decide), iI_add]
        show f_J_nlzi_33 (nI (n / 2 ^ 16)) _ = _
        rw [nlz_33 (by show 1 ≤ n / 65536; omega) (by show n / 65536 < 65536; omega), hb]
        congr 2; omega
    · have hneg : (nI n).toInt < 0 := by rw [ht, if_neg h31]; omega
      have hb : bl n = 32 := bl_eq (k := 31) (by omega) (by omega)
      rw [if_neg (fun q => by rw [Int32.lt_iff_toInt_lt, Int32.toInt_zero] at q; omega), if_neg (fun q => by rw [q, Int32.toInt_zero] at hneg; omega), hb]
      rfl
theorem nlz_ok {n : Nat} (hn : n < 2 ^ 64) : f_J_nlz (lN n) = some (iI (64 - bl n)) := by
  unfold f_J_nlz
  rw [show (32 : Int32) = iI 32 from rfl, jushr_i hn (by decide) (by decide)]
  show (if (lN (n / 2 ^ 32)).toInt32 = 0 then _ else Option.bind (f_J_nlzi ((lN (n / 2 ^ 32)).toInt32)) _) = _
  rw [lN_i32, lN_i32]
  have hh : n / 2 ^ 32 < 2 ^ 32 := by omega
  by_cases h : n / 2 ^ 32 = 0
  · have hn2 : n < 2 ^ 32 := by omega
    rw [h, if_pos (by decide), nlzi_ok hn2]
    show some (iI 32 + iI (32 - bl n)) = _
    rw [iI_add]; congr 2; omega
  · have hb := bl_div n 32
    have hp := bl_pos h
    rw [if_neg (fun q => h ?_), nlzi_ok hh, hb]
    · show some (iI (32 - ((bl n - 32 : Nat) : Int))) = _
      congr 2; omega
    · have := congrArg Int32.toInt q
      rw [nI_t hh, Int32.toInt_zero] at this
      split at this <;> omega
theorem bl64 {n : Nat} (hn : n < 2 ^ 64) : bl n ≤ 64 := bl_le_iff.mpr hn
/-- Long.compareUnsigned -/
theorem cmpU_ok {a b : Nat} (ha : a < 2 ^ 64) (hb : b < 2 ^ 64) : f_J_compareUnsigned (lN a) (lN b) = some (if a < b then -1 else if a = b then 0 else 1) := by
  unfold f_J_compareUnsigned f_J_compare
  have hm : (-9223372036854775808 : Int64) = lN (2 ^ 63) := by decide +kernel
  have hx : ∀ x, x < 2 ^ 64 → (lN x + (-9223372036854775808 : Int64)).toInt = (x : Int) - 2 ^ 63 := by
    intro x hx
    rw [hm, lN_add, wb_mod, lN_ti (Nat.mod_lt _ (by decide))]
    split <;> omega
  simp only [lg_cmp_ge, lg_cmp_eq, ← Int64.toInt_inj, Int64.le_iff_toInt_le, hx a ha, hx b hb]
  rcases Nat.lt_trichotomy a b with h | h | h
  · rw [if_neg (by omega), if_pos h]; rfl
  · subst h; simp
  · rw [if_pos (by omega), if_neg (by omega), if_neg (by omega), if_neg (by omega)]; rfl
