/-! PURE: the sum of two exact numbers -/
abbrev SumO : Type := Bool × Int32 × Int64 × Int64 × Int32 × Int32 × Int32 × Int64 × Int64 × Int32 × Int32
def SelP (o : SumO) (sg : Int32) (V : Nat) (p : Int) (s : Bool) : Prop :=
  (o.1 = true ∧ o.2.1 = sg ∧ o.2.2.1 = hW V ∧ o.2.2.2.1 = lW V ∧ o.2.2.2.2.1 = iI p ∧ o.2.2.2.2.2.1 = bI s) ∨
  (o.1 = false ∧ o.2.2.2.2.2.2.1 = sg ∧ o.2.2.2.2.2.2.2.1 = hW V ∧ o.2.2.2.2.2.2.2.2.1 = lW V ∧ o.2.2.2.2.2.2.2.2.2.1 = iI p ∧ o.2.2.2.2.2.2.2.2.2.2 = bI s)
theorem Rep_self {V q : Nat} {p : Int} (hq : (q : Int) = p + 2000) : Rep (V * 2 ^ q) false V p false := by
  refine ⟨q, hq, (Nat.mul_div_cancel _ (Nat.two_pow_pos q)).symm, ?_⟩
  rw [mul_pow_mod V (Nat.le_refl q)]; rfl
theorem sub_div {P VA W r : Nat} (hr : r < P) (hle : W * P + r ≤ VA * P) : (VA * P - (W * P + r)) / P = VA - W - (decide (r ≠ 0)).toNat ∧ ((VA * P - (W * P + r)) % P ≠ 0 ↔ r ≠ 0) ∧ W + (decide (r ≠ 0)).toNat ≤ VA := by
  have hP : 0 < P := by omega
  by_cases h : r = 0
  · subst h
    have hWV : W ≤ VA := Nat.le_of_mul_le_mul_right (by omega : W * P ≤ VA * P) hP
    rw [Nat.add_zero, ← Nat.sub_mul, Nat.mul_div_cancel _ hP, Nat.mul_mod_left]
    simp; exact hWV
  · have hlt : W < VA := by
      rcases Nat.lt_or_ge W VA with q | q
      · exact q
      · have := Nat.mul_le_mul_right P q; omega
    obtain ⟨k, rfl⟩ : ∃ k, VA = W + 1 + k := ⟨VA - W - 1, by omega⟩
    have e : (W + 1 + k) * P - (W * P + r) = k * P + (P - r) := by
      rw [Nat.add_mul, Nat.add_mul, Nat.one_mul]; omega
    rw [e, Nat.add_comm (k * P), Nat.add_mul_div_right _ _ hP, Nat.div_eq_of_lt (by omega), Nat.add_mul_mod_self_right, Nat.mod_eq_of_lt (by omega)]
    simp [h]; omega
/-- the greater number A (lifted), the lesser one B (lifted): what takeLesser leaves -/
theorem ab_add {VA VB qA qB : Nat} (hq : qB ≤ qA) : Rep (VA * 2 ^ qA + VB * 2 ^ qB) false (VA + VB / 2 ^ (qA - qB)) ((qA : Int) - 2000) (decide (VB % 2 ^ (qA - qB) ≠ 0)) := by
  have hB1 : VB * 2 ^ qB / 2 ^ qA = VB / 2 ^ (qA - qB) := by
    rw [show (2 : Nat) ^ qA = 2 ^ (qA - qB) * 2 ^ qB by rw [← Nat.pow_add]; congr 1; omega, Nat.mul_div_mul_right _ _ (Nat.two_pow_pos qB)]
  have hB2 : VB * 2 ^ qB % 2 ^ qA = VB % 2 ^ (qA - qB) * 2 ^ qB := by
    rw [show (2 : Nat) ^ qA = 2 ^ (qA - qB) * 2 ^ qB by rw [← Nat.pow_add]; congr 1; omega, Nat.mul_mod_mul_right]
  refine ⟨qA, by omega, ?_, ?_⟩
  · rw [Nat.add_comm (VA * 2 ^ qA), Nat.add_mul_div_right _ _ (Nat.two_pow_pos qA), hB1, Nat.add_comm]
  · rw [Nat.add_comm (VA * 2 ^ qA), Nat.add_mul_mod_self_right, hB2, Bool.false_or, decide_eq_decide]
    have := Nat.two_pow_pos qB
    constructor
    · intro h z; rcases Nat.mul_eq_zero.mp z with y | y <;> omega
    · intro h z; rw [z, Nat.zero_mul] at h; exact h rfl
theorem ab_sub {VA VB qA qB : Nat} (hq : qB ≤ qA) (hle : VB * 2 ^ qB ≤ VA * 2 ^ qA) : Rep (VA * 2 ^ qA - VB * 2 ^ qB) false (VA - VB / 2 ^ (qA - qB) - (decide (VB % 2 ^ (qA - qB) ≠ 0)).toNat) ((qA : Int) - 2000) (decide (VB % 2 ^ (qA - qB) ≠ 0)) ∧ VB / 2 ^ (qA - qB) + (decide (VB % 2 ^ (qA - qB) ≠ 0)).toNat ≤ VA := by
  have hB1 : VB * 2 ^ qB / 2 ^ qA = VB / 2 ^ (qA - qB) := by
    rw [show (2 : Nat) ^ qA = 2 ^ (qA - qB) * 2 ^ qB by rw [← Nat.pow_add]; congr 1; omega, Nat.mul_div_mul_right _ _ (Nat.two_pow_pos qB)]
  have hB2 : VB * 2 ^ qB % 2 ^ qA = VB % 2 ^ (qA - qB) * 2 ^ qB := by
    rw [show (2 : Nat) ^ qA = 2 ^ (qA - qB) * 2 ^ qB by rw [← Nat.pow_add]; congr 1; omega, Nat.mul_mod_mul_right]
  have hz : (VB * 2 ^ qB % 2 ^ qA ≠ 0) ↔ (VB % 2 ^ (qA - qB) ≠ 0) := by
    rw [hB2]
    have := Nat.two_pow_pos qB
    constructor
    · intro h z; rw [z, Nat.zero_mul] at h; exact h rfl
    · intro h z; rcases Nat.mul_eq_zero.mp z with y | y <;> omega
  have hdm : VB * 2 ^ qB = VB / 2 ^ (qA - qB) * 2 ^ qA + VB * 2 ^ qB % 2 ^ qA := by
    have := Nat.div_add_mod (VB * 2 ^ qB) (2 ^ qA)
    rw [hB1, Nat.mul_comm] at this; exact this.symm
  obtain ⟨a, b, c⟩ := sub_div (P := 2 ^ qA) (VA := VA) (W := VB / 2 ^ (qA - qB)) (r := VB * 2 ^ qB % 2 ^ qA) (Nat.mod_lt _ (Nat.two_pow_pos qA)) (by rw [← hdm]; exact hle)
  rw [← hdm] at a b
  rw [decide_eq_decide.mpr hz] at a c
  refine ⟨⟨qA, by omega, a.symm, ?_⟩, c⟩
  rw [Bool.false_or, decide_eq_decide]
  exact hz.symm.trans b.symm
theorem lift_bl {V : Nat} (h0 : V ≠ 0) (h : bl V ≤ 126) : bl (V * 2 ^ (126 - bl V)) = 126 ∧ V * 2 ^ (126 - bl V) < 2 ^ 126 := by
  have e : bl (V * 2 ^ (126 - bl V)) = 126 := by rw [bl_mul _ _ h0]; omega
  exact ⟨e, bl_le_iff.mp (Nat.le_of_eq e)⟩
/-- the lesser's rest is there only if the greater keeps its top -/
theorem ab_top {VA VB d : Nat} {k : Nat} (hA : bl VA = 126) (hB : VB < 2 ^ 126) (hk : 16 ≤ k) (hdiv : VB % 2 ^ k = 0) (hs : decide (VB % 2 ^ d ≠ 0) = true) : 62 < bl (VA - VB / 2 ^ d - (decide (VB % 2 ^ d ≠ 0)).toNat) := by
  have hs' := of_decide_eq_true hs
  have hd : k < d := by
    rcases Nat.lt_or_ge k d with q | q
    · exact q
    · exact absurd (by rw [div_mul_pow hdiv]; exact mul_pow_mod _ q) hs'
  have hA2 : 2 ^ 125 ≤ VA := by
    have := bl_le (n := VA) (fun z => by rw [z] at hA; simp [bl] at hA); rw [hA] at this; exact this
  have hW : VB / 2 ^ d < 2 ^ 109 := by
    rw [Nat.div_lt_iff_lt_mul (Nat.two_pow_pos d)]
    have : 2 ^ 126 ≤ 2 ^ 109 * 2 ^ d := by rw [← Nat.pow_add]; exact Nat.pow_le_pow_right (by decide) (by omega)
    omega
  rw [hs]
  apply bl_lt_iff.mpr
  show 2 ^ 62 ≤ VA - VB / 2 ^ d - 1
  omega
theorem sign_mulN {sg : Int} {N : Nat} (h : sg = -1 ∨ sg = 1) : (sg * (N : Int)).sign = (if N = 0 then 0 else sg) ∧ (sg * (N : Int)).natAbs = N := by
  by_cases hN : N = 0
  · subst hN; simp
  · rcases h with rfl | rfl
    · rw [if_neg hN]; exact ⟨Int.sign_eq_neg_one_of_neg (by omega), by omega⟩
    · rw [if_neg hN]; exact ⟨Int.sign_eq_one_of_pos (by omega), by omega⟩
