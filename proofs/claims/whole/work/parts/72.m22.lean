/-! PURE: the bit count of a long; X's step -/
theorem lNadd (a b : Nat) : lN a + lN b = lN (a + b) := by
  rw [← lI_lN, ← lI_lN, lI_add, ← Int.natCast_add, lI_lN]
theorem lNsub {a b : Nat} (h : b ≤ a) : lN a - lN b = lN (a - b) := by
  rw [← lI_lN, ← lI_lN, lI_sub, ← lI_lN]; congr 1; omega
theorem and_split {w a r A R : Nat} (ha : a < 2 ^ w) (hr : r < 2 ^ w) : (a + 2 ^ w * A) &&& (r + 2 ^ w * R) = (a &&& r) + 2 ^ w * (A &&& R) := by
  have h1 : ((a + 2 ^ w * A) &&& (r + 2 ^ w * R)) % 2 ^ w = a &&& r := by
    rw [Nat.and_mod_two_pow, Nat.add_mul_mod_self_left, Nat.add_mul_mod_self_left, Nat.mod_eq_of_lt ha, Nat.mod_eq_of_lt hr]
  have h2 : ((a + 2 ^ w * A) &&& (r + 2 ^ w * R)) / 2 ^ w = A &&& R := by
    rw [Nat.and_div_two_pow, Nat.add_mul_div_left _ _ (Nat.two_pow_pos w), Nat.add_mul_div_left _ _ (Nat.two_pow_pos w), Nat.div_eq_of_lt ha, Nat.div_eq_of_lt hr, Nat.zero_add, Nat.zero_add]
  rw [← Nat.mod_add_div ((a + 2 ^ w * A) &&& (r + 2 ^ w * R)) (2 ^ w), h1, h2]
def msk (r : Nat) : Nat → Nat
  | 0 => 0
  | n + 1 => r + 256 * msk r n
theorem msk_s (r m : Nat) : msk r (m + 1) = r + 256 * msk r m := rfl
def bc1 (m x : Nat) : Nat := x - (x / 2 &&& msk 85 m)
def bc2 (m x : Nat) : Nat := (x &&& msk 51 m) + (x / 4 &&& msk 51 m)
def bc3 (m x : Nat) : Nat := (x + x / 16) &&& msk 15 m
def b1 (b : Nat) : Nat := b - (b / 2 &&& 85)
def b2 (b : Nat) : Nat := (b &&& 51) + (b / 4 &&& 51)
def pc8 (b : Nat) : Nat := (b2 (b1 b) + b2 (b1 b) / 16) % 16
theorem d1 : ∀ b, b < 256 → (b / 2 &&& 85) ≤ b ∧ (b / 2 + 128) &&& 85 = b / 2 &&& 85 := by decide +kernel
theorem d2 : ∀ t, t < 4 → ∀ b, b < 256 → (b / 4 + 64 * t) &&& 51 = b / 4 &&& 51 := by decide +kernel
theorem d3 : ∀ b, b < 256 → b1 b < 256 ∧ b2 (b1 b) ≤ 68 ∧ b2 (b1 b) / 16 ≤ 4 ∧ b2 (b1 b) % 16 ≤ 4 ∧ pc8 b ≤ 8 ∧ (pc8 b = 0 ↔ b = 0) := by decide +kernel
theorem d4 : ∀ b, b < 32 → 16 ≤ b → 1 ≤ pc8 b ∧ (pc8 b = 1 ↔ b = 16) := by decide +kernel
theorem d5 : ∀ b, b < 256 → 128 ≤ b → 1 ≤ pc8 b ∧ (pc8 b = 1 ↔ b = 128) := by decide +kernel
theorem as8 {a r A R : Nat} (ha : a < 256) (hr : r < 256) : (a + 256 * A) &&& (r + 256 * R) = (a &&& r) + 256 * (A &&& R) := and_split (w := 8) ha hr
theorem bc1_s {m b y : Nat} (hb : b < 256) : bc1 (m + 1) (b + 256 * y) = b1 b + 256 * bc1 m y := by
  unfold bc1 b1
  rw [msk_s]
  have e : (b + 256 * y) / 2 = (b / 2 + 128 * (y % 2)) + 256 * (y / 2) := by omega
  rw [e, as8 (by omega) (by omega)]
  obtain ⟨h1, h2⟩ := d1 b hb
  have h3 : (b / 2 + 128 * (y % 2)) &&& 85 = b / 2 &&& 85 := by
    have : y % 2 = 0 ∨ y % 2 = 1 := by omega
    rcases this with q | q
    · rw [q, Nat.mul_zero, Nat.add_zero]
    · rw [q, Nat.mul_one, h2]
  have h4 : (y / 2 &&& msk 85 m) ≤ y / 2 := Nat.and_le_left
  rw [h3]
  omega
theorem bc2_s {m b y : Nat} (hb : b < 256) : bc2 (m + 1) (b + 256 * y) = b2 b + 256 * bc2 m y := by
  unfold bc2 b2
  rw [msk_s]
  have e : (b + 256 * y) / 4 = (b / 4 + 64 * (y % 4)) + 256 * (y / 4) := by omega
  rw [e, as8 (by omega) (by omega), as8 (by omega) (by omega), d2 (y % 4) (by omega) b hb]
  omega
theorem bc3_s {m b y : Nat} (h1 : b ≤ 68) (h2 : b / 16 ≤ 4) (h3 : y % 16 ≤ 4) : bc3 (m + 1) (b + 256 * y) = (b + b / 16) % 16 + 256 * bc3 m y := by
  unfold bc3
  rw [msk_s]
  have e : (b + 256 * y) + (b + 256 * y) / 16 = (b + b / 16 + 16 * (y % 16)) + 256 * (y + y / 16) := by omega
  rw [e, as8 (by omega) (by omega)]
  congr 1
  have := Nat.and_two_pow_sub_one_eq_mod (b + b / 16 + 16 * (y % 16)) 4
  rw [show (2 : Nat) ^ 4 - 1 = 15 from rfl] at this
  rw [this]
  omega
theorem bc_low (m y : Nat) (hy : y < 256 ^ m) : bc2 m (bc1 m y) % 16 ≤ 4 := by
  cases m with
  | zero => have : y = 0 := by simpa using hy
            subst this; decide
  | succ m =>
    have e : y = y % 256 + 256 * (y / 256) := by omega
    have hb : y % 256 < 256 := by omega
    have := d3 (y % 256) hb
    rw [e, bc1_s hb, bc2_s this.1]
    omega
theorem bc_s {m b y : Nat} (hb : b < 256) (hy : y < 256 ^ m) : bc3 (m + 1) (bc2 (m + 1) (bc1 (m + 1) (b + 256 * y))) = pc8 b + 256 * bc3 m (bc2 m (bc1 m y)) := by
  have := d3 b hb
  rw [bc1_s hb, bc2_s this.1, bc3_s this.2.1 this.2.2.1 (bc_low m y hy)]
  unfold pc8; exact Eq.refl _
theorem dv {a b k : Nat} (h : a < k) : (a + k * b) / k = b := by
  rw [Nat.add_mul_div_left _ _ (by omega), Nat.div_eq_of_lt h, Nat.zero_add]
theorem bc_sum {c0 c1 c2 c3 c4 c5 c6 c7 x y z w : Nat} (h0 : c0 ≤ 8) (h1 : c1 ≤ 8) (h2 : c2 ≤ 8) (h3 : c3 ≤ 8) (h4 : c4 ≤ 8) (h5 : c5 ≤ 8) (h6 : c6 ≤ 8) (h7 : c7 ≤ 8) (hx : x = c0 + 256 * (c1 + 256 * (c2 + 256 * (c3 + 256 * (c4 + 256 * (c5 + 256 * (c6 + 256 * c7))))))) (hy : y = x + x / 2 ^ 8) (hz : z = y + y / 2 ^ 16) (hw : w = z + z / 2 ^ 32) : w % 128 = c0 + c1 + c2 + c3 + c4 + c5 + c6 + c7 ∧ w < 2 ^ 64 ∧ z < 2 ^ 64 ∧ y < 2 ^ 64 := by
  have ex : x / 2 ^ 8 = c1 + 256 * (c2 + 256 * (c3 + 256 * (c4 + 256 * (c5 + 256 * (c6 + 256 * c7))))) := by
    rw [hx]; exact dv (Nat.lt_of_le_of_lt h0 (by decide))
  have ey : y = ((c0 + c1) + 256 * (c1 + c2)) + 2 ^ 16 * ((c2 + c3) + 256 * ((c3 + c4) + 256 * ((c4 + c5) + 256 * ((c5 + c6) + 256 * ((c6 + c7) + 256 * c7))))) := by rw [hy, ex, hx]; clear hx hy hz hw ex h0 h1 h2 h3 h4 h5 h6 h7; omega
  have ey2 : y / 2 ^ 16 = (c2 + c3) + 256 * ((c3 + c4) + 256 * ((c4 + c5) + 256 * ((c5 + c6) + 256 * ((c6 + c7) + 256 * c7)))) := by
    rw [ey]; exact dv (by clear hx hy hz hw ex ey h4 h5 h6 h7; omega)
  have ez : z = ((c0 + c1 + c2 + c3) + 256 * (c1 + c2 + c3 + c4) + 65536 * (c2 + c3 + c4 + c5) + 16777216 * (c3 + c4 + c5 + c6)) + 2 ^ 32 * ((c4 + c5 + c6 + c7) + 256 * ((c5 + c6 + c7) + 256 * ((c6 + c7) + 256 * c7))) := by rw [hz, ey2, ey]; clear hx hy hz hw ex ey ey2 h0 h1 h2 h3 h4 h5 h6 h7; omega
  have ez2 : z / 2 ^ 32 = (c4 + c5 + c6 + c7) + 256 * ((c5 + c6 + c7) + 256 * ((c6 + c7) + 256 * c7)) := by
    rw [ez]; exact dv (by clear hx hy hz hw ex ey ey2 ez h7; omega)
  have ew : w = (c0 + c1 + c2 + c3 + c4 + c5 + c6 + c7) + 128 * (2 * ((c1 + c2 + c3 + c4) + (c5 + c6 + c7) + 256 * (c2 + c3 + c4 + c5 + c6 + c7) + 65536 * (c3 + c4 + c5 + c6 + c7) + 16777216 * ((c4 + c5 + c6 + c7) + 256 * ((c5 + c6 + c7) + 256 * ((c6 + c7) + 256 * c7))))) := by rw [hw, ez2, ez]; clear hx hy hz hw ex ey ey2 ez ez2 h0 h1 h2 h3 h4 h5 h6 h7; omega
  refine ⟨?_, ?_, ?_, ?_⟩
  · rw [ew, Nat.add_mul_mod_self_left]; exact Nat.mod_eq_of_lt (by clear hx hy hz hw ex ey ey2 ez ez2 ew; omega)
  · rw [ew]; clear hx hy hz hw ex ey ey2 ez ez2 ew; omega
  · rw [ez]; clear hx hy hz hw ex ey ey2 ez ez2 ew; omega
  · rw [ey]; clear hx hy hz hw ex ey ey2 ez ez2 ew; omega
theorem bc1_8 (n : Nat) : n - (n / 2 &&& 6148914691236517205) = bc1 8 n := by
  unfold bc1; rw [show msk 85 8 = 6148914691236517205 by decide +kernel]
theorem bc2_8 (n : Nat) : (n &&& 3689348814741910323) + (n / 4 &&& 3689348814741910323) = bc2 8 n := by
  unfold bc2; rw [show msk 51 8 = 3689348814741910323 by decide +kernel]
theorem bc3_8 (n : Nat) : (n + n / 16) &&& 1085102592571150095 = bc3 8 n := by
  unfold bc3; rw [show msk 15 8 = 1085102592571150095 by decide +kernel]
theorem bt_10 {n : Nat} (hn : n < 2 ^ 64) : f_J_bitCount (lN n) = f_J_bitCount_10 (lN (bc1 8 n)) := by
  have k1 : (n / 2 &&& 6148914691236517205) ≤ n := Nat.le_trans Nat.and_le_left (Nat.div_le_self _ _)
  unfold f_J_bitCount
  rw [show (1 : Int32) = iI 1 from rfl, jushr_i hn (by decide) (by decide), show (6148914691236517205 : Int64) = lN 6148914691236517205 from rfl, wb_and (Nat.lt_of_le_of_lt (Nat.div_le_self _ _) hn) (by decide), show (2 : Nat) ^ (1 : Int).toNat = 2 from rfl, lNsub k1, bc1_8]
theorem bt_24 {x : Nat} (k2 : x < 2 ^ 64) : f_J_bitCount_10 (lN x) = f_J_bitCount_24 (lN (bc2 8 x)) ∧ bc2 8 x ≤ 7378697629483820646 := by
  constructor
  · unfold f_J_bitCount_10
    rw [show (2 : Int32) = iI 2 from rfl, jushr_i k2 (by decide) (by decide), show (3689348814741910323 : Int64) = lN 3689348814741910323 from rfl, wb_and k2 (by decide), wb_and (Nat.lt_of_le_of_lt (Nat.div_le_self _ _) k2) (by decide), lNadd, show (2 : Nat) ^ (2 : Int).toNat = 4 from rfl, bc2_8]
  · rw [← bc2_8]
    exact Nat.le_trans (Nat.add_le_add Nat.and_le_right Nat.and_le_right) (by decide)
theorem bt_34 {x : Nat} (k : x ≤ 7378697629483820646) : f_J_bitCount_24 (lN x) = f_J_bitCount_34 (lN (bc3 8 x)) := by
  unfold f_J_bitCount_24
  rw [show (4 : Int32) = iI 4 from rfl, jushr_i (by omega) (by decide) (by decide), lNadd, show (1085102592571150095 : Int64) = lN 1085102592571150095 from rfl, show (2 : Nat) ^ (4 : Int).toNat = 16 from rfl, wb_and (by omega) (by decide), bc3_8]
theorem bt_end {x y z : Nat} (h1 : x < 2 ^ 64) (h2 : y < 2 ^ 64) (h3 : z < 2 ^ 64) (hy : y = x + x / 2 ^ 8) (hz : z = y + y / 2 ^ 16) : f_J_bitCount_34 (lN x) = some (nI ((z + z / 2 ^ 32) % 128)) := by
  unfold f_J_bitCount_34
  rw [show (8 : Int32) = iI 8 from rfl, jushr_i h1 (by decide) (by decide), lNadd, show (8 : Int).toNat = 8 from rfl, ← hy]
  unfold f_J_bitCount_41
  rw [show (16 : Int32) = iI 16 from rfl, jushr_i h2 (by decide) (by decide), lNadd, show (16 : Int).toNat = 16 from rfl, ← hz]
  unfold f_J_bitCount_48
  rw [show (32 : Int32) = iI 32 from rfl, jushr_i h3 (by decide) (by decide), lNadd, show (32 : Int).toNat = 32 from rfl]
  unfold f_J_bitCount_55
  rw [lN_i32, show (127 : Int32) = nI 127 from rfl, nx_and]
  have := Nat.and_two_pow_sub_one_eq_mod (z + z / 2 ^ 32) 7
  rw [show (2 : Nat) ^ 7 - 1 = 127 from rfl] at this
  rw [this]
theorem by8 {n : Nat} (hn : n < 2 ^ 64) : ∃ a0 a1 a2 a3 a4 a5 a6 a7 : Nat, a0 < 256 ∧ a1 < 256 ∧ a2 < 256 ∧ a3 < 256 ∧ a4 < 256 ∧ a5 < 256 ∧ a6 < 256 ∧ a7 < 256 ∧ n = a0 + 256 * (a1 + 256 * (a2 + 256 * (a3 + 256 * (a4 + 256 * (a5 + 256 * (a6 + 256 * (a7 + 256 * 0))))))) := by
  obtain ⟨n1, e1⟩ : ∃ n1, n1 = n / 256 := ⟨_, rfl⟩
  obtain ⟨n2, e2⟩ : ∃ n2, n2 = n1 / 256 := ⟨_, rfl⟩
  obtain ⟨n3, e3⟩ : ∃ n3, n3 = n2 / 256 := ⟨_, rfl⟩
  obtain ⟨n4, e4⟩ : ∃ n4, n4 = n3 / 256 := ⟨_, rfl⟩
  obtain ⟨n5, e5⟩ : ∃ n5, n5 = n4 / 256 := ⟨_, rfl⟩
  obtain ⟨n6, e6⟩ : ∃ n6, n6 = n5 / 256 := ⟨_, rfl⟩
  have l1 : n1 < 2 ^ 56 := by omega
  have l2 : n2 < 2 ^ 48 := by omega
  have l3 : n3 < 2 ^ 40 := by omega
  have l4 : n4 < 2 ^ 32 := by omega
  have l5 : n5 < 2 ^ 24 := by omega
  have l6 : n6 < 2 ^ 16 := by omega
  refine ⟨n % 256, n1 % 256, n2 % 256, n3 % 256, n4 % 256, n5 % 256, n6 % 256, n6 / 256, by omega, by omega, by omega, by omega, by omega, by omega, by omega, by omega, ?_⟩
  have t6 : n6 % 256 + 256 * (n6 / 256 + 256 * 0) = n6 := by omega
  have t5 : n5 % 256 + 256 * n6 = n5 := by omega
  have t4 : n4 % 256 + 256 * n5 = n4 := by omega
  have t3 : n3 % 256 + 256 * n4 = n3 := by omega
  have t2 : n2 % 256 + 256 * n3 = n2 := by omega
  have t1 : n1 % 256 + 256 * n2 = n1 := by omega
  rw [t6, t5, t4, t3, t2, t1]
  omega
theorem bc_dec {a0 a1 a2 a3 a4 a5 a6 a7 c0 c1 c2 c3 c4 c5 c6 c7 n : Nat} (z0 : c0 = 0 ↔ a0 = 0) (z1 : c1 = 0 ↔ a1 = 0) (z2 : c2 = 0 ↔ a2 = 0) (z3 : c3 = 0 ↔ a3 = 0) (z4 : c4 = 0 ↔ a4 = 0) (z5 : c5 = 0 ↔ a5 = 0) (z6 : c6 = 0 ↔ a6 = 0) (z7 : c7 = 0 ↔ a7 = 0)
    (e : n = a0 + 256 * (a1 + 256 * (a2 + 256 * (a3 + 256 * (a4 + 256 * (a5 + 256 * (a6 + 256 * (a7 + 256 * 0)))))))) (g0 : a0 < 256) (g1 : a1 < 256) (g2 : a2 < 256) (g3 : a3 < 256) (g4 : a4 < 256) (g5 : a5 < 256) (g6 : a6 < 256)
    (w6 : 16 ≤ a6 → a6 < 32 → (c6 = 1 ↔ a6 = 16)) (w2 : 128 ≤ a2 → (c2 = 1 ↔ a2 = 128)) : (2 ^ 52 ≤ n → n < 2 ^ 53 → (c0 + c1 + c2 + c3 + c4 + c5 + c6 + c7 ≤ 1 ↔ n = 2 ^ 52)) ∧ (2 ^ 23 ≤ n → n < 2 ^ 24 → (c0 + c1 + c2 + c3 + c4 + c5 + c6 + c7 ≤ 1 ↔ n = 2 ^ 23)) := by
  constructor
  · intro p1 p2
    have q7 : a7 = 0 := by omega
    have q6 : a6 < 32 ∧ 16 ≤ a6 := by omega
    have w := w6 q6.2 q6.1
    constructor
    · intro r
      have k : c0 = 0 ∧ c1 = 0 ∧ c2 = 0 ∧ c3 = 0 ∧ c4 = 0 ∧ c5 = 0 ∧ c6 = 1 := by omega
      have : a0 = 0 ∧ a1 = 0 ∧ a2 = 0 ∧ a3 = 0 ∧ a4 = 0 ∧ a5 = 0 ∧ a6 = 16 := ⟨z0.mp k.1, z1.mp k.2.1, z2.mp k.2.2.1, z3.mp k.2.2.2.1, z4.mp k.2.2.2.2.1, z5.mp k.2.2.2.2.2.1, w.mp k.2.2.2.2.2.2⟩
      omega
    · intro r
      have k : a0 = 0 ∧ a1 = 0 ∧ a2 = 0 ∧ a3 = 0 ∧ a4 = 0 ∧ a5 = 0 ∧ a6 = 16 := by clear z0 z1 z2 z3 z4 z5 z6 z7 w w6 w2; omega
      have : c0 = 0 ∧ c1 = 0 ∧ c2 = 0 ∧ c3 = 0 ∧ c4 = 0 ∧ c5 = 0 ∧ c6 = 1 ∧ c7 = 0 := ⟨z0.mpr k.1, z1.mpr k.2.1, z2.mpr k.2.2.1, z3.mpr k.2.2.2.1, z4.mpr k.2.2.2.2.1, z5.mpr k.2.2.2.2.2.1, w.mpr k.2.2.2.2.2.2, z7.mpr q7⟩
      omega
  · intro p1 p2
    have q7 : a7 = 0 ∧ a6 = 0 ∧ a5 = 0 ∧ a4 = 0 ∧ a3 = 0 := by clear z0 z1 z2 z3 z4 z5 z6 z7 w6 w2; omega
    have q6 : 128 ≤ a2 := by clear z0 z1 z2 z3 z4 z5 z6 z7 w6 w2; omega
    have w := w2 q6
    have y : c7 = 0 ∧ c6 = 0 ∧ c5 = 0 ∧ c4 = 0 ∧ c3 = 0 := ⟨z7.mpr q7.1, z6.mpr q7.2.1, z5.mpr q7.2.2.1, z4.mpr q7.2.2.2.1, z3.mpr q7.2.2.2.2⟩
    constructor
    · intro r
      have k : c0 = 0 ∧ c1 = 0 ∧ c2 = 1 := by omega
      have : a0 = 0 ∧ a1 = 0 ∧ a2 = 128 := ⟨z0.mp k.1, z1.mp k.2.1, w.mp k.2.2⟩
      clear z0 z1 z2 z3 z4 z5 z6 z7 w6 w2 w; omega
    · intro r
      have k : a0 = 0 ∧ a1 = 0 ∧ a2 = 128 := by clear z0 z1 z2 z3 z4 z5 z6 z7 w6 w2 w; omega
      have : c0 = 0 ∧ c1 = 0 ∧ c2 = 1 := ⟨z0.mpr k.1, z1.mpr k.2.1, w.mpr k.2.2⟩
      clear z0 z1 z2 z3 z4 z5 z6 z7 w6 w2 w; omega
theorem bc_end {n : Nat} (hn : n < 2 ^ 64) : ∃ c, f_J_bitCount (lN n) = some (iI ((c : Nat) : Int)) ∧ c ≤ 64 ∧ (2 ^ 52 ≤ n → n < 2 ^ 53 → (c ≤ 1 ↔ n = 2 ^ 52)) ∧ (2 ^ 23 ≤ n → n < 2 ^ 24 → (c ≤ 1 ↔ n = 2 ^ 23)) := by
  obtain ⟨a0, a1, a2, a3, a4, a5, a6, a7, g0, g1, g2, g3, g4, g5, g6, g7, e⟩ := by8 hn
  have X : bc3 8 (bc2 8 (bc1 8 n)) = pc8 a0 + 256 * (pc8 a1 + 256 * (pc8 a2 + 256 * (pc8 a3 + 256 * (pc8 a4 + 256 * (pc8 a5 + 256 * (pc8 a6 + 256 * pc8 a7)))))) := by
    rw [e, bc_s g0 (by omega), bc_s g1 (by omega), bc_s g2 (by omega), bc_s g3 (by omega), bc_s g4 (by omega), bc_s g5 (by omega), bc_s g6 (by omega), bc_s g7 (by decide), show bc3 0 (bc2 0 (bc1 0 0)) = 0 from rfl, Nat.mul_zero, Nat.add_zero]
  have f0 := (d3 a0 g0).2.2.2.2
  have f1 := (d3 a1 g1).2.2.2.2
  have f2 := (d3 a2 g2).2.2.2.2
  have f3 := (d3 a3 g3).2.2.2.2
  have f4 := (d3 a4 g4).2.2.2.2
  have f5 := (d3 a5 g5).2.2.2.2
  have f6 := (d3 a6 g6).2.2.2.2
  have f7 := (d3 a7 g7).2.2.2.2
  have D := bc_dec f0.2 f1.2 f2.2 f3.2 f4.2 f5.2 f6.2 f7.2 e g0 g1 g2 g3 g4 g5 g6 (fun q1 q2 => (d4 a6 q2 q1).2) (fun q1 => (d5 a2 g2 q1).2)
  obtain ⟨S1, S2, S3, S4⟩ := bc_sum f0.1 f1.1 f2.1 f3.1 f4.1 f5.1 f6.1 f7.1 X rfl rfl rfl
  have k2 : bc1 8 n < 2 ^ 64 := Nat.lt_of_le_of_lt (Nat.sub_le _ _) hn
  obtain ⟨t1, t2⟩ := bt_24 k2
  refine ⟨_, ?_, ?_, D⟩
  · rw [bt_10 hn, t1, bt_34 t2, bt_end (Nat.lt_of_le_of_lt (Nat.le_add_right _ _) S4) S4 S3 rfl rfl, S1, iI_nI]
  · have := f0.1; have := f1.1; have := f2.1; have := f3.1; have := f4.1; have := f5.1; have := f6.1; have := f7.1
    clear D X S1 S2 S3 S4 e t1 t2 k2
    omega
