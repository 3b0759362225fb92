/-! PURE: bit length, rounding, and what rounding doesn't see -/
def bl (n : Nat) : Nat := if n = 0 then 0 else n.log2 + 1
theorem bl_0 : bl 0 = 0 := rfl
theorem bl_lt (n : Nat) : n < 2 ^ bl n := by
  unfold bl
  split
  · next h => subst h; decide
  · exact Nat.lt_log2_self
theorem bl_pos {n : Nat} (h : n ≠ 0) : 0 < bl n := by
  unfold bl; rw [if_neg h]; exact Nat.succ_pos _
theorem bl_le {n : Nat} (h : n ≠ 0) : 2 ^ (bl n - 1) ≤ n := by
  unfold bl; rw [if_neg h]; exact Nat.log2_self_le h
theorem bl_eq {n k : Nat} (h1 : 2 ^ k ≤ n) (h2 : n < 2 ^ (k + 1)) : bl n = k + 1 := by
  have h : n ≠ 0 := by have := Nat.two_pow_pos k; omega
  unfold bl; rw [if_neg h, (Nat.log2_eq_iff h).mpr ⟨h1, h2⟩]
theorem bl_le_iff {n k : Nat} : bl n ≤ k ↔ n < 2 ^ k := by
  by_cases h : n = 0
  · subst h; simp [bl, Nat.two_pow_pos]
  · unfold bl; rw [if_neg h, ← Nat.log2_lt h]; omega
theorem bl_lt_iff {n k : Nat} : k < bl n ↔ 2 ^ k ≤ n := by
  have := @bl_le_iff n k; omega
theorem bl_mul (n k : Nat) (h : n ≠ 0) : bl (n * 2 ^ k) = bl n + k := by
  have hp := bl_pos h
  have e : bl n + k = (bl n - 1 + k) + 1 := by omega
  rw [e]
  refine bl_eq ?_ ?_
  · rw [Nat.pow_add]; exact Nat.mul_le_mul_right _ (bl_le h)
  · rw [show bl n - 1 + k + 1 = bl n + k by omega, Nat.pow_add]
    exact Nat.mul_lt_mul_of_pos_right (bl_lt n) (Nat.two_pow_pos k)
theorem bl_div (n k : Nat) : bl (n / 2 ^ k) = bl n - k := by
  by_cases h : n < 2 ^ k
  · rw [Nat.div_eq_of_lt h]; have := bl_le_iff.mpr h; rw [bl_0]; omega
  · have h1 : 2 ^ k ≤ n := Nat.not_lt.mp h
    have h2 := bl_lt_iff.mpr h1
    have hn : n ≠ 0 := by have := Nat.two_pow_pos k; omega
    have e : bl n - k = (bl n - k - 1) + 1 := by omega
    rw [e]
    refine bl_eq ?_ ?_
    · rw [Nat.le_div_iff_mul_le (Nat.two_pow_pos k), ← Nat.pow_add, show bl n - k - 1 + k = bl n - 1 by omega]
      exact bl_le hn
    · rw [Nat.div_lt_iff_lt_mul (Nat.two_pow_pos k), ← Nat.pow_add, show bl n - k - 1 + 1 + k = bl n by omega]
      exact bl_lt n
/-- ROUNDING (N + rest) * 2^e to p bits: the kept number, its place, -1, 0, 1: which way it went -/
def rup (N d : Nat) (s : Bool) : Bool := decide (2 ^ d < 2 * (N % 2 ^ d)) || (decide (2 * (N % 2 ^ d) = 2 ^ d) && (s || decide (N / 2 ^ d % 2 = 1)))
def rnd (p N : Nat) (e : Int) (s : Bool) : Nat × Int × Int :=
  if bl N ≤ p then (N, e, 0)
  else (N / 2 ^ (bl N - p) + (if rup N (bl N - p) s then 1 else 0), e + ((bl N - p : Nat) : Int), if N % 2 ^ (bl N - p) = 0 ∧ s = false then 0 else if rup N (bl N - p) s then 1 else -1)
theorem mix_lt {P D r t : Nat} (ht : t < P) : P * D < t + P * r ↔ D < r ∨ (D = r ∧ 0 < t) := by
  constructor
  · intro h
    rcases Nat.lt_trichotomy D r with q | q | q
    · exact Or.inl q
    · subst q; exact Or.inr ⟨rfl, by omega⟩
    · have h1 : P * (r + 1) ≤ P * D := Nat.mul_le_mul_left P q
      rw [Nat.mul_add, Nat.mul_one] at h1; omega
  · rintro (q | ⟨q, h⟩)
    · have h1 : P * (D + 1) ≤ P * r := Nat.mul_le_mul_left P q
      rw [Nat.mul_add, Nat.mul_one] at h1; omega
    · subst q; omega
theorem mix_eq {P D r t : Nat} (ht : t < P) : t + P * r = P * D ↔ D = r ∧ t = 0 := by
  constructor
  · intro h
    rcases Nat.lt_trichotomy D r with q | q | q
    · have h1 : P * (D + 1) ≤ P * r := Nat.mul_le_mul_left P q
      rw [Nat.mul_add, Nat.mul_one] at h1; omega
    · subst q; exact ⟨rfl, by omega⟩
    · have h1 : P * (r + 1) ≤ P * D := Nat.mul_le_mul_left P q
      rw [Nat.mul_add, Nat.mul_one] at h1; omega
  · rintro ⟨q, h⟩; subst q; omega
theorem rup_iff (N d : Nat) (s : Bool) : rup N d s = true ↔ 2 ^ d < 2 * (N % 2 ^ d) ∨ (2 * (N % 2 ^ d) = 2 ^ d ∧ (s = true ∨ N / 2 ^ d % 2 = 1)) := by
  unfold rup
  simp only [Bool.or_eq_true, Bool.and_eq_true, decide_eq_true_eq]
theorem cut_mod (N k d : Nat) : N % 2 ^ (k + d) = N % 2 ^ k + 2 ^ k * (N / 2 ^ k % 2 ^ d) := by rw [Nat.pow_add, Nat.mod_mul]
theorem cut_div (N k d : Nat) : N / 2 ^ (k + d) = N / 2 ^ k / 2 ^ d := by rw [Nat.pow_add, Nat.div_div_eq_div_mul]
theorem rup_cut (N k d : Nat) (s : Bool) : rup N (k + (d + 1)) s = rup (N / 2 ^ k) (d + 1) (s || decide (N % 2 ^ k ≠ 0)) := by
  have hP : 0 < 2 ^ k := Nat.two_pow_pos k
  have ht : N % 2 ^ k < 2 ^ k := Nat.mod_lt _ hP
  have e3 : (2 : Nat) ^ (k + (d + 1)) = 2 * (2 ^ k * 2 ^ d) := by rw [← Nat.pow_add, Nat.mul_comm, ← Nat.pow_succ]; rfl
  have e4 : (2 : Nat) ^ (d + 1) = 2 * 2 ^ d := by rw [Nat.pow_succ, Nat.mul_comm]
  rw [Bool.eq_iff_iff, rup_iff, rup_iff, cut_mod, cut_div]
  generalize N / 2 ^ k / 2 ^ (d + 1) % 2 = od
  generalize N / 2 ^ k % 2 ^ (d + 1) = r
  rw [e3, e4]
  generalize N % 2 ^ k = t at ht ⊢
  generalize (2 : Nat) ^ k = P at ht hP ⊢
  generalize (2 : Nat) ^ d = D
  have a1 : 2 * (P * D) < 2 * (t + P * r) ↔ 2 * D < 2 * r ∨ (2 * r = 2 * D ∧ t ≠ 0) := by
    rw [show (2 * (P * D) < 2 * (t + P * r)) ↔ P * D < t + P * r by omega, mix_lt ht]; omega
  have a2 : 2 * (t + P * r) = 2 * (P * D) ↔ 2 * r = 2 * D ∧ t = 0 := by
    rw [show (2 * (t + P * r) = 2 * (P * D)) ↔ t + P * r = P * D by omega, mix_eq ht]; omega
  rw [a1, a2]
  by_cases h3 : t = 0 <;> cases s <;> simp [h3]
  all_goals omega
/-- cutting low bits off, with their being there kept, isn't seen while more than p bits stay -/
theorem rnd_cut {p N k : Nat} {e : Int} {s : Bool} (h : p < bl (N / 2 ^ k)) : rnd p N e s = rnd p (N / 2 ^ k) (e + (k : Int)) (s || decide (N % 2 ^ k ≠ 0)) := by
  have hb := bl_div N k
  obtain ⟨d, hd⟩ : ∃ d, bl (N / 2 ^ k) - p = d + 1 := ⟨bl (N / 2 ^ k) - p - 1, by omega⟩
  have hd2 : bl N - p = k + (d + 1) := by omega
  have h1 : ¬ bl N ≤ p := by omega
  have h2 : ¬ bl (N / 2 ^ k) ≤ p := by omega
  have a : (N % 2 ^ (k + (d + 1)) = 0 ∧ s = false) ↔ (N / 2 ^ k % 2 ^ (d + 1) = 0 ∧ (s || decide (N % 2 ^ k ≠ 0)) = false) := by
    have hP : 0 < 2 ^ k := Nat.two_pow_pos k
    rw [cut_mod]
    constructor
    · rintro ⟨h1, h2⟩
      have h3 : N % 2 ^ k = 0 := by omega
      have h4 : 2 ^ k * (N / 2 ^ k % 2 ^ (d + 1)) = 0 := by omega
      rcases Nat.mul_eq_zero.mp h4 with q | q
      · omega
      · exact ⟨q, by simp [h2, h3]⟩
    · rintro ⟨h1, h2⟩
      rw [h1]; simp at h2; simp [h2.1, h2.2]
  unfold rnd
  rw [if_neg h1, if_neg h2, hd, hd2, rup_cut, cut_div]
  refine Prod.ext rfl (Prod.ext ?_ ?_)
  · show e + ((k + (d + 1) : Nat) : Int) = e + (k : Int) + ((d + 1 : Nat) : Int)
    omega
  · show (if _ then _ else _) = (if _ then _ else _)
    by_cases q : N % 2 ^ (k + (d + 1)) = 0 ∧ s = false
    · rw [if_pos q, if_pos (a.mp q)]
    · rw [if_neg q, if_neg (fun z => q (a.mpr z))]
/-- the rounding of N (+ rest) as a number, and which way it went -/
def rv (p N : Nat) (S : Bool) : Nat := (rnd p N 0 S).1 * 2 ^ (rnd p N 0 S).2.1.toNat
def rc (p N : Nat) (S : Bool) : Int := (rnd p N 0 S).2.2
/-- V * 2^pl (+ rest, if s) is N * 2^-2000 (+ rest, if S), cut -/
def Rep (N : Nat) (S : Bool) (V : Nat) (pl : Int) (s : Bool) : Prop := ∃ q : Nat, (q : Int) = pl + 2000 ∧ V = N / 2 ^ q ∧ s = (S || decide (N % 2 ^ q ≠ 0))
theorem rnd_e (p N : Nat) (e : Int) (S : Bool) : (rnd p N e S).1 = (rnd p N 0 S).1 ∧ (rnd p N e S).2.1 = e + (rnd p N 0 S).2.1 ∧ (rnd p N e S).2.2 = (rnd p N 0 S).2.2 ∧ 0 ≤ (rnd p N 0 S).2.1 := by
  unfold rnd
  by_cases h : bl N ≤ p
  · simp [h]
  · rw [if_neg h, if_neg h]
    refine ⟨rfl, ?_, rfl, ?_⟩
    · show e + ((bl N - p : Nat) : Int) = e + (0 + ((bl N - p : Nat) : Int))
      omega
    · show (0 : Int) ≤ 0 + ((bl N - p : Nat) : Int)
      omega
theorem div_mul_pow {N q : Nat} (h : N % 2 ^ q = 0) : N = N / 2 ^ q * 2 ^ q := by
  have := Nat.div_add_mod N (2 ^ q); rw [h, Nat.add_zero, Nat.mul_comm] at this; exact this.symm
theorem mul_pow_mod (V : Nat) {q d : Nat} (h : d ≤ q) : V * 2 ^ q % 2 ^ d = 0 := by
  rw [show q = (q - d) + d by omega, Nat.pow_add, ← Nat.mul_assoc]; exact Nat.mul_mod_left _ _
theorem mul_pow_div (V : Nat) {q d : Nat} (h : d ≤ q) : V * 2 ^ q / 2 ^ d = V * 2 ^ (q - d) := by
  rw [show V * 2 ^ q = V * 2 ^ (q - d) * 2 ^ d by rw [Nat.mul_assoc, ← Nat.pow_add]; congr 2; omega]
  exact Nat.mul_div_cancel _ (Nat.two_pow_pos d)
/-- an exact number rounded with bits enough is itself -/
theorem rv_fit {p V q : Nat} (h : bl V ≤ p) : rv p (V * 2 ^ q) false = V * 2 ^ q ∧ rc p (V * 2 ^ q) false = 0 := by
  unfold rv rc rnd
  by_cases hb : bl (V * 2 ^ q) ≤ p
  · simp [hb]
  · have hV : V ≠ 0 := fun z => hb (by subst z; simp [bl])
    have hbm := bl_mul V q hV
    have hd : bl (V * 2 ^ q) - p ≤ q := by omega
    have hm := mul_pow_mod V hd
    have hu : rup (V * 2 ^ q) (bl (V * 2 ^ q) - p) false = false := by
      rw [← Bool.not_eq_true, rup_iff, hm]
      have := Nat.two_pow_pos (bl (V * 2 ^ q) - p)
      simp
      omega
    rw [if_neg hb, hu, hm, mul_pow_div V hd]
    refine ⟨?_, by simp⟩
    simp only [Bool.false_eq_true, if_false, Nat.add_zero]
    rw [show ((0 : Int) + ((bl (V * 2 ^ q) - p : Nat) : Int)).toNat = bl (V * 2 ^ q) - p by omega, Nat.mul_assoc, ← Nat.pow_add]
    congr 2; omega
/-- what rounding a cut of N gives is the rounding of N -/
theorem rnd_rep {p N V : Nat} {pl : Int} {S s : Bool} (h : Rep N S V pl s) (hs : (S = false ∧ s = false) ∨ p < bl V) : (rnd p V pl s).1 * 2 ^ ((rnd p V pl s).2.1 + 2000).toNat = rv p N S ∧ (rnd p V pl s).2.2 = rc p N S := by
  obtain ⟨q, hq, hV, hS⟩ := h
  by_cases hb : p < bl V
  · have hc : rnd p N (-2000) S = rnd p V pl s := by
      rw [rnd_cut (k := q) (by rw [← hV]; exact hb), ← hV, ← hS, show (-2000 : Int) + (q : Int) = pl by omega]
    obtain ⟨a, b, c, d⟩ := rnd_e p N (-2000) S
    rw [← hc, a, b, c]
    refine ⟨?_, rfl⟩
    unfold rv
    rw [show (-2000 : Int) + (rnd p N 0 S).2.1 + 2000 = (rnd p N 0 S).2.1 by omega]
  · rcases hs with ⟨z, w⟩ | z
    · subst z; subst w
      have hm : N % 2 ^ q = 0 := by
        have := hS.symm; simp at this; exact this
      have hN : N = V * 2 ^ q := by rw [hV]; exact div_mul_pow hm
      have hle : bl V ≤ p := by omega
      have := rv_fit (q := q) hle
      rw [hN, this.1, this.2]
      unfold rnd
      rw [if_pos hle]
      refine ⟨?_, rfl⟩
      show V * 2 ^ (pl + 2000).toNat = _
      rw [show (pl + 2000).toNat = q by omega]
    · exact absurd z hb
