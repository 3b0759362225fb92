/-! PURE: the state stays well formed -/
theorem vok_mk {m k : Nat} (hm : m ≤ 2 ^ 53) (h : inr (m * 2 ^ k)) : vok (m * 2 ^ k) := by
  rcases h with h | ⟨h1, h2⟩
  · exact Or.inl h
  · refine Or.inr ⟨h1, h2, ?_⟩
    by_cases e : m = 2 ^ 53
    · have hb := bl_mul 1 (53 + k) (by decide)
      rw [Nat.one_mul, Nat.pow_add, ← e, show bl 1 = 1 from rfl] at hb
      rw [hb, e, ← Nat.pow_add]
      have := mul_pow_mod 1 (q := 53 + k) (d := 1 + (53 + k) - 53) (by omega)
      rw [Nat.one_mul] at this
      exact this
    · have m0 : m ≠ 0 := by
        intro q; rw [q, Nat.zero_mul] at h1; exact absurd h1 (by decide)
      have hb := bl_mul m k m0
      have : bl m ≤ 53 := bl_le_iff.mpr (by omega)
      rw [hb]; exact mul_pow_mod _ (by omega)
theorem Inv_up {st : ASt} (hI : Inv st) {d v : Nat} {b : Bool} (x : Int32 × Int32 × Int32) (hv : vok v) (hb : b = true → v ≠ 0) : Inv (va_up st.1 d b, va_up st.2.1 d v, x) := by
  intro i
  unfold va_up
  by_cases h : i = d
  · simp only [if_pos h]; exact ⟨hv, hb⟩
  · simp only [if_neg h]; exact hI i
theorem Inv_x {st : ASt} (hI : Inv st) (x : Int32 × Int32 × Int32) : Inv (st.1, st.2.1, x) := hI
theorem nz_and {b : Bool} {v : Nat} (h : (b && decide (v ≠ 0)) = true) : v ≠ 0 := by
  rw [Bool.and_eq_true] at h; exact of_decide_eq_true h.2
theorem Inv_aop {st : ASt} (hI : Inv st) {d N p : Nat} {sg : Int} {S : Bool} (hp : 1 ≤ p ∧ p ≤ 53) : Inv (aop st d sg N S p).2 := by
  unfold aop
  by_cases h : inr (rv p N S)
  · rw [if_pos h]
    refine Inv_up hI _ ?_ (fun q => nz_and q)
    unfold rv at h ⊢
    exact vok_mk (Nat.le_trans (rnd_facts hp.1).1 (pow_mono hp.2)) h
  · rw [if_neg h]; exact hI
theorem Inv_gop {st : ASt} (hI : Inv st) {d m k v : Nat} {ng : Bool} {c : Int} (hv : v = m * 2 ^ k) (hm : m ≤ 2 ^ 53) : Inv (gop st d ng v c).2 := by
  unfold gop
  by_cases h : inr v
  · rw [if_pos h]
    refine Inv_up hI _ ?_ (fun q => nz_and q)
    rw [hv] at h ⊢
    exact vok_mk hm h
  · rw [if_neg h]; exact hI
theorem stp_form {v P : Nat} (away : Bool) (hP : 1 ≤ P ∧ P ≤ 53) : ∃ m k, m ≤ 2 ^ 53 ∧ stp v P away = m * 2 ^ k := by
  have hb := bl_div v (bl v - P)
  have h1 : v / 2 ^ (bl v - P) < 2 ^ P := bl_le_iff.mp (by omega)
  have h2 : 2 ^ P ≤ 2 ^ 53 := pow_mono hP.2
  have h3 : 2 ^ P = 2 * 2 ^ (P - 1) := by rw [show P = (P - 1) + 1 by omega, Nat.pow_succ, Nat.mul_comm]; rfl
  unfold stp
  by_cases v0 : v = 0
  · rw [if_pos v0]; exact ⟨1, 1900, by decide, (Nat.one_mul _).symm⟩
  · rw [if_neg v0]
    generalize v / 2 ^ (bl v - P) = m at *
    cases away
    · rw [if_neg (by decide)]
      by_cases c : v % 2 ^ (bl v - P) ≠ 0
      · rw [if_pos c]; exact ⟨m, _, by omega, rfl⟩
      · rw [if_neg c]
        by_cases e : m = 2 ^ (P - 1)
        · rw [if_pos e]
          by_cases t : bl v = 1901
          · rw [if_pos t]; exact ⟨0, 0, by omega, rfl⟩
          · rw [if_neg t]; exact ⟨2 * m - 1, _, by omega, rfl⟩
        · rw [if_neg e]; exact ⟨m - 1, _, by omega, rfl⟩
    · rw [if_pos rfl]; exact ⟨m + 1, _, by omega, rfl⟩
theorem I_add {st : ASt} (hI : Inv st) (a1 a2 a3 a4 : Int32) : Inv (A_add st a1 a2 a3 a4).2 := by
  unfold A_add zop; split
  · exact Inv_aop hI (bitsOf_in a4)
  · exact hI
theorem I_sub {st : ASt} (hI : Inv st) (a1 a2 a3 a4 : Int32) : Inv (A_sub st a1 a2 a3 a4).2 := by
  unfold A_sub zop; split
  · exact Inv_aop hI (bitsOf_in a4)
  · exact hI
theorem I_mul {st : ASt} (hI : Inv st) (a1 a2 a3 a4 : Int32) : Inv (A_mul st a1 a2 a3 a4).2 := by
  unfold A_mul zop; split
  · exact Inv_aop hI (bitsOf_in a4)
  · exact hI
theorem I_div {st : ASt} (hI : Inv st) (a1 a2 a3 a4 : Int32) : Inv (A_div st a1 a2 a3 a4).2 := by
  unfold A_div; split
  · exact Inv_aop hI (bitsOf_in a4)
  · exact hI
theorem I_fus {st : ASt} (hI : Inv st) (a1 a2 a3 a4 a5 : Int32) : Inv (A_fus st a1 a2 a3 a4 a5).2 := by
  unfold A_fus zop; split
  · exact Inv_aop hI (bitsOf_in a5)
  · exact hI
theorem I_root {st : ASt} (hI : Inv st) (a1 a2 a3 : Int32) : Inv (A_root st a1 a2 a3).2 := by
  unfold A_root; split
  · exact Inv_aop hI (bitsOf_in a3)
  · exact hI
theorem I_rem {st : ASt} (hI : Inv st) (a1 a2 a3 : Int32) : Inv (A_rem st a1 a2 a3).2 := by
  unfold A_rem zop; split
  · exact Inv_aop hI (by decide)
  · exact hI
theorem I_copy {st : ASt} (hI : Inv st) (a1 a2 a3 : Int32) : Inv (A_copy st a1 a2 a3).2 := by
  unfold A_copy zop; split
  · exact Inv_aop hI (bitsOf_in a3)
  · exact hI
theorem I_scale {st : ASt} (hI : Inv st) (a1 a2 a3 : Int32) : Inv (A_scale st a1 a2 a3).2 := by
  unfold A_scale; split
  · exact Inv_aop hI (by decide)
  · exact hI
theorem I_step {st : ASt} (hI : Inv st) (a1 a2 : Int32) (up : Bool) (a4 : Int32) : Inv (A_step st a1 a2 up a4).2 := by
  unfold A_step; split
  · obtain ⟨m, k, hm, e⟩ := stp_form (v := st.2.1 (ix a2)) (P := bitsOf a4) (up != st.1 (ix a2)) (bitsOf_in a4)
    exact Inv_gop hI e hm
  · exact hI
theorem I_set {st : ASt} (hI : Inv st) (a1 : Int32) (a2 : Int64) (a3 : Int32) : Inv (A_set st a1 a2 a3).2 := by
  unfold A_set
  by_cases h : set_in a1 a2 a3
  · rw [if_pos h]
    by_cases c : inr (val a2.toInt.natAbs a3.toInt)
    · rw [if_pos c]
      refine Inv_up hI _ ?_ ?_
      · unfold val at c ⊢
        exact vok_mk (by have := h.2.1; have := h.2.2.1; omega) c
      · intro q z
        have := of_decide_eq_true q
        unfold val at z
        rcases Nat.mul_eq_zero.mp z with z | z
        · omega
        · have := Nat.two_pow_pos (a3.toInt + 2000).toNat; omega
    · rw [if_neg c]; exact hI
  · rw [if_neg h]; exact hI
