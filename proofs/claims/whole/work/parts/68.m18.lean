/-! PURE: X's root -/
def isq : Nat → Nat
  | 0 => 0
  | n + 1 => if (isq n + 1) * (isq n + 1) ≤ n + 1 then isq n + 1 else isq n
theorem sq_mono {a b : Nat} (h : a ≤ b) : a * a ≤ b * b := Nat.mul_le_mul h h
theorem isq_spec (n : Nat) : isq n * isq n ≤ n ∧ n < (isq n + 1) * (isq n + 1) := by
  induction n with
  | zero => decide
  | succ n ih =>
    unfold isq
    by_cases h : (isq n + 1) * (isq n + 1) ≤ n + 1
    · rw [if_pos h]
      refine ⟨h, ?_⟩
      have e : (isq n + 1 + 1) * (isq n + 1 + 1) = (isq n + 1) * (isq n + 1) + 2 * (isq n + 1) + 1 := by
        generalize isq n + 1 = k
        rw [Nat.add_mul, Nat.mul_add]; omega
      omega
    · rw [if_neg h]; omega
theorem isq_eq {n r : Nat} (h1 : r * r ≤ n) (h2 : n < (r + 1) * (r + 1)) : isq n = r := by
  obtain ⟨a, b⟩ := isq_spec n
  rcases Nat.lt_trichotomy (isq n) r with q | q | q
  · have := sq_mono (show isq n + 1 ≤ r from q); omega
  · exact q
  · have := sq_mono (show r + 1 ≤ isq n from q); omega
theorem isq_rep (B q : Nat) : isq (B * (2 ^ q * 2 ^ q)) / 2 ^ q = isq B ∧ (decide (isq B * isq B ≠ B) = (decide (isq (B * (2 ^ q * 2 ^ q)) * isq (B * (2 ^ q * 2 ^ q)) ≠ B * (2 ^ q * 2 ^ q)) || decide (isq (B * (2 ^ q * 2 ^ q)) % 2 ^ q ≠ 0))) := by
  have hp := Nat.two_pow_pos q
  generalize 2 ^ q = P at *
  have hpp : 0 < P * P := Nat.mul_pos hp hp
  obtain ⟨a, b⟩ := isq_spec (B * (P * P))
  obtain ⟨w, hw⟩ : ∃ w, w = isq (B * (P * P)) := ⟨_, rfl⟩
  rw [← hw] at a b ⊢
  have dm := Nat.div_add_mod w P
  have hm := Nat.mod_lt w hp
  have e1 : isq B = w / P := by
    refine isq_eq ?_ ?_
    · apply Nat.le_of_mul_le_mul_right (c := P * P) ?_ hpp
      calc w / P * (w / P) * (P * P) = (w / P * P) * (w / P * P) := by rw [Nat.mul_mul_mul_comm]
        _ ≤ w * w := sq_mono (Nat.div_mul_le_self w P)
        _ ≤ B * (P * P) := a
    · apply Nat.lt_of_mul_lt_mul_right (a := P * P)
      have h3 : w + 1 ≤ (w / P + 1) * P := by rw [Nat.add_mul, Nat.one_mul, Nat.mul_comm (w / P)]; omega
      calc B * (P * P) < (w + 1) * (w + 1) := b
        _ ≤ ((w / P + 1) * P) * ((w / P + 1) * P) := sq_mono h3
        _ = (w / P + 1) * (w / P + 1) * (P * P) := by rw [Nat.mul_mul_mul_comm]
  refine ⟨e1.symm, ?_⟩
  rw [← Bool.decide_or, decide_eq_decide, e1]
  constructor
  · intro h
    by_cases c : w % P = 0
    · left; intro c2
      apply h
      have e2 : w = w / P * P := by rw [Nat.mul_comm]; omega
      apply Nat.eq_of_mul_eq_mul_right hpp
      rw [← c2]
      conv => rhs; rw [e2]
      rw [Nat.mul_mul_mul_comm]
    · exact Or.inr c
  · intro h c
    have e2 : (w / P * P) * (w / P * P) = B * (P * P) := by rw [Nat.mul_mul_mul_comm, c]
    have e3 : isq (B * (P * P)) = w / P * P := isq_eq (Nat.le_of_eq e2) (by rw [← e2]; exact Nat.mul_lt_mul'' (Nat.lt_succ_self _) (Nat.lt_succ_self _))
    rw [← hw] at e3
    rcases h with h | h
    · apply h; conv => lhs; rw [e3]
      exact e2
    · apply h; rw [e3]; exact Nat.mul_mod_left _ _
theorem and1 (e : Int) (h1 : -100000 < e) (h2 : e < 100000) : iI e &&& (1 : Int32) = iI (e % 2) := by
  rw [← Int32.toInt_inj, iI_t (by omega) (by omega)]
  have := Jvm.Kit.i32_mask (iI e) 1 (k := 1) (by decide) (by decide)
  rw [iI_t (by omega) (by omega)] at this
  exact this
theorem half_i (k : Int) (h1 : -100000 < k) (h2 : k < 100000) : iI (2 * k) / (2 : Int32) = iI k := by
  rw [← Int32.toInt_inj, Int32.toInt_div_of_ne_right _ _ (by decide), iI_t (by omega) (by omega), iI_t (by omega) (by omega)]
  show (2 * k).tdiv 2 = k
  exact Int.mul_tdiv_cancel_left k (by decide)
theorem hr_step {r l dg : Nat} (hl : l ≤ 2 * r) (hd : dg < 4) : (4 * l + dg < 4 * r + 1 → (2 * r) * (2 * r) + (4 * l + dg) = 4 * (r * r + l) + dg ∧ 4 * l + dg ≤ 2 * (2 * r)) ∧ (4 * r + 1 ≤ 4 * l + dg → (2 * r + 1) * (2 * r + 1) + (4 * l + dg - (4 * r + 1)) = 4 * (r * r + l) + dg ∧ 4 * l + dg - (4 * r + 1) ≤ 2 * (2 * r + 1)) := by
  have e : (2 * r) * (2 * r) = 4 * (r * r) := by rw [Nat.mul_mul_mul_comm]
  have e2 : (2 * r + 1) * (2 * r + 1) = 4 * (r * r) + 4 * r + 1 := by rw [Nat.add_mul, Nat.mul_add, e]; omega
  constructor
  · intro h; rw [e]; omega
  · intro h; rw [e2]; omega
/-- the number of the pairs taken first -/
def pfx (sq t : Nat) : Nat := sq * 4 ^ t / 4 ^ 27
theorem pfx_0 {sq : Nat} (h : sq < 2 ^ 54) : pfx sq 0 = 0 := by
  unfold pfx; exact Nat.div_eq_of_lt (by rw [Nat.pow_zero, Nat.mul_one]; exact h)
theorem pfx_s (sq t : Nat) : pfx sq (t + 1) = 4 * pfx sq t + (if t ≤ 26 then sq / 4 ^ (26 - t) % 4 else 0) := by
  unfold pfx
  by_cases h : t ≤ 26
  · rw [if_pos h]
    have e1 : (4 : Nat) ^ 27 = 4 ^ (26 - t) * 4 ^ (t + 1) := by rw [← Nat.pow_add]; congr 1; omega
    have e2 : (4 : Nat) ^ 27 = 4 ^ (27 - t) * 4 ^ t := by rw [← Nat.pow_add]; congr 1; omega
    have e3 : sq * 4 ^ (t + 1) / 4 ^ 27 = sq / 4 ^ (26 - t) := by rw [e1, Nat.mul_div_mul_right _ _ (Nat.pow_pos (by decide))]
    have e4 : sq * 4 ^ t / 4 ^ 27 = sq / 4 ^ (26 - t) / 4 := by
      rw [e2, Nat.mul_div_mul_right _ _ (Nat.pow_pos (by decide)), show 27 - t = (26 - t) + 1 by omega, Nat.pow_succ, Nat.div_div_eq_div_mul]
    rw [e3, e4]; omega
  · rw [if_neg h]
    have e1 : sq * 4 ^ (t + 1) = sq * 4 ^ (t - 26) * 4 ^ 27 := by rw [Nat.mul_assoc, ← Nat.pow_add]; congr 2; omega
    have e2 : sq * 4 ^ t = sq * 4 ^ (t - 27) * 4 ^ 27 := by rw [Nat.mul_assoc, ← Nat.pow_add]; congr 2; omega
    rw [e1, e2, Nat.mul_div_cancel _ (Nat.pow_pos (by decide)), Nat.mul_div_cancel _ (Nat.pow_pos (by decide)), show t - 26 = (t - 27) + 1 by omega, Nat.pow_succ, ← Nat.mul_assoc]
    omega
theorem pow4 (k : Nat) : (4 : Nat) ^ k = 2 ^ (2 * k) := by rw [Nat.pow_mul]
