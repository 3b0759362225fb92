/-! PURE: the operations in the abstract; X's finish -/
abbrev ASt : Type := (Nat → Bool) × (Nat → Nat) × Int32 × Int32 × Int32
def aop (st : ASt) (d : Nat) (sg : Int) (N : Nat) (S : Bool) (p : Nat) : Int32 × ASt :=
  if inr (rv p N S) then (0, va_up st.1 d (decide (sg < 0) && decide (rv p N S ≠ 0)), va_up st.2.1 d (rv p N S), iI (sg * rc p N S), (if rc p N S = 0 then st.2.2.2.1 else st.2.2.2.1 + 1), st.2.2.2.2)
  else (-2, st.1, st.2.1, st.2.2.1, st.2.2.2.1, st.2.2.2.2 + 1)
/-- the state of X that an abstract one has -/
abbrev xM (st : ASt) : Nat → Int64 := clM st.1 st.2.1
abbrev xP (st : ASt) : Nat → Int32 := clP st.2.1
theorem clM_up (ng : Nat → Bool) (vv : Nat → Nat) (d : Nat) (b : Bool) (v : Nat) : vp_updL (clM ng vv) d (lI (mz b v)) = clM (va_up ng d b) (va_up vv d v) := by
  funext j; unfold vp_updL clM va_up; by_cases h : j = d <;> simp [h]
theorem clP_up (vv : Nat → Nat) (d : Nat) (v : Nat) : upd (clP vv) d (iI (pz v)) = clP (va_up vv d v) := by
  funext j; unfold upd clP va_up; by_cases h : j = d <;> simp [h]
theorem mz_and (b : Bool) (v : Nat) : mz b v = mz (b && decide (v ≠ 0)) v := by
  by_cases h : v = 0
  · subst h; rw [mz_0, mz_0]
  · simp [h]
theorem rnd_facts {p V : Nat} {e : Int} {s : Bool} (h1 : 1 ≤ p) : (rnd p V e s).1 ≤ 2 ^ p ∧ e ≤ (rnd p V e s).2.1 ∧ (rnd p V e s).2.1 ≤ e + bl V ∧ ((rnd p V e s).2.2 = -1 ∨ (rnd p V e s).2.2 = 0 ∨ (rnd p V e s).2.2 = 1) := by
  unfold rnd
  by_cases h : bl V ≤ p
  · rw [if_pos h]
    exact ⟨Nat.le_of_lt (bl_le_iff.mp h), Int.le_refl _, by show e ≤ _; omega, Or.inr (Or.inl rfl)⟩
  · rw [if_neg h]
    have : V / 2 ^ (bl V - p) < 2 ^ p := by
      apply bl_le_iff.mp; rw [bl_div]; omega
    refine ⟨?_, ?_, ?_, ?_⟩
    · show V / 2 ^ (bl V - p) + (if _ then 1 else 0) ≤ _
      split <;> omega
    · show e ≤ e + ((bl V - p : Nat) : Int); omega
    · show e + ((bl V - p : Nat) : Int) ≤ _; omega
    · show (if _ then (0 : Int) else if _ then 1 else -1) = -1 ∨ _ ∨ _
      split
      · exact Or.inr (Or.inl rfl)
      · split
        · exact Or.inr (Or.inr rfl)
        · exact Or.inl rfl
def bitsOf (nar : Int32) : Nat := if nar = 0 then 53 else 24
theorem bitsOf_in (nar : Int32) : 1 ≤ bitsOf nar ∧ bitsOf nar ≤ 53 := by unfold bitsOf; split <;> decide
theorem fin_12 {st : ASt} {d : Nat} (hd : d < 8) {sg p : Int} {V N bits : Nat} {S s : Bool} (hb : 1 ≤ bits ∧ bits ≤ 53) (hsg : sg = -1 ∨ sg = 0 ∨ sg = 1) (hz : sg = 0 → V = 0) (hV : V < 2 ^ 128) (hR : Rep N S V p s) (hs : (S = false ∧ s = false) ∨ 53 < bl V) (hp1 : -1990 ≤ p) (hp2 : p < 5000) :
    ∃ j1 j2 j3 j4, f_X_finish_12 (nI d) (iI bits) st.2.2.1 st.2.2.2.1 st.2.2.2.2 (xM st) (xP st) (iI sg) (hW V) (lW V) (iI p) (bI s) = some ((aop st d sg N S bits).1, (aop st d sg N S bits).2.2.2.1, (aop st d sg N S bits).2.2.2.2.1, (aop st d sg N S bits).2.2.2.2.2, xM (aop st d sg N S bits).2, xP (aop st d sg N S bits).2, j1, j2, j3, j4) := by
  have hbl := bl128 hV
  obtain ⟨mo, hr⟩ := round_ok (sg := sg) (bits := bits) hb.1 hb.2 hV (s := s) (p := p) (by rcases hs with q | q; exact Or.inl q.2; exact Or.inr (by omega)) (by omega) (by omega)
  obtain ⟨f1, f2, f3, f4⟩ := rnd_facts (p := bits) (V := V) (e := p) (s := s) hb.1
  obtain ⟨g1, g2⟩ := rnd_rep (p := bits) hR (by rcases hs with q | q; exact Or.inl q; exact Or.inr (by omega))
  have f1' : (rnd bits V p s).1 ≤ 2 ^ 53 := Nat.le_trans f1 (Nat.pow_le_pow_right (by decide) hb.2)
  unfold f_X_finish_12
  rw [hr]
  simp only [Option.bind_some]
  have h38 : ∀ y : Int64, y = lI (if decide (sg < 0) = true then -((rnd bits V p s).1 : Int) else (rnd bits V p s).1) → ∃ j1 j2 j3 j4, f_X_finish_38 (iI (sg * (rnd bits V p s).2.2)) y (nI d) st.2.2.1 st.2.2.2.1 st.2.2.2.2 (xM st) (xP st) (iI sg) 0 (lN (rnd bits V p s).1) (iI (rnd bits V p s).2.1) mo = some ((aop st d sg N S bits).1, (aop st d sg N S bits).2.2.2.1, (aop st d sg N S bits).2.2.2.2.1, (aop st d sg N S bits).2.2.2.2.2, xM (aop st d sg N S bits).2, xP (aop st d sg N S bits).2, j1, j2, j3, j4) := by
    intro y hy
    subst hy
    unfold f_X_finish_38
    have hcc : sg * (rnd bits V p s).2.2 = -1 ∨ sg * (rnd bits V p s).2.2 = 0 ∨ sg * (rnd bits V p s).2.2 = 1 := by
      rcases hsg with rfl | rfl | rfl <;> rcases f4 with q | q | q <;> rw [q] <;> decide
    rw [put_ok hd f1' (by omega) (by omega) hcc]
    have hv : val (rnd bits V p s).1 (rnd bits V p s).2.1 = rv bits N S := g1
    rw [hv, g2]
    have hro : (if sg * rc bits N S = 0 then st.2.2.2.1 else st.2.2.2.1 + 1) = (if rc bits N S = 0 then st.2.2.2.1 else st.2.2.2.1 + 1) := by
      rcases hsg with q | q | q
      · subst q; by_cases z : rc bits N S = 0
        · simp [z]
        · rw [if_neg (by omega), if_neg z]
      · have hV0 := hz q
        have hc0 : rc bits N S = 0 := by
          rw [← g2, hV0]; unfold rnd; rw [if_pos (by rw [bl_0]; omega)]
        rw [hc0, Int.mul_zero]
      · subst q; rw [Int.one_mul]
    unfold aop
    by_cases hi : inr (rv bits N S)
    · rw [if_pos hi, if_pos hi]
      refine ⟨0, lN (rnd bits V p s).1, iI (rnd bits V p s).2.1, mo, ?_⟩
      simp only [Option.bind_some]
      rw [hro, mz_and (decide (sg < 0)) (rv bits N S), clM_up, clP_up]
    · rw [if_neg hi, if_neg hi]
      exact ⟨_, _, _, _, rfl⟩
  by_cases h0 : 0 ≤ sg
  · rw [if_pos ((iI_ge0 (by omega) (by omega)).mpr h0)]
    refine h38 _ ?_
    rw [if_neg (by simp; omega), lI_lN]
  · rw [if_neg (fun q => h0 ((iI_ge0 (by omega) (by omega)).mp q))]
    refine h38 _ ?_
    rw [if_pos (by simp; omega), ← lI_lN, lI_neg]
theorem fin_ok {st : ASt} {d : Nat} (hd : d < 8) {sg p : Int} {V N : Nat} {S s : Bool} (nar : Int32) (hsg : sg = -1 ∨ sg = 0 ∨ sg = 1) (hz : sg = 0 → V = 0) (hV : V < 2 ^ 128) (hR : Rep N S V p s) (hs : (S = false ∧ s = false) ∨ 53 < bl V) (hp1 : -1990 ≤ p) (hp2 : p < 5000) :
    ∃ j1 j2 j3 j4, f_X_finish st.2.2.1 st.2.2.2.1 st.2.2.2.2 (xM st) (xP st) (iI sg) (hW V) (lW V) (iI p) (bI s) (nI d) nar = some ((aop st d sg N S (bitsOf nar)).1, (aop st d sg N S (bitsOf nar)).2.2.2.1, (aop st d sg N S (bitsOf nar)).2.2.2.2.1, (aop st d sg N S (bitsOf nar)).2.2.2.2.2, xM (aop st d sg N S (bitsOf nar)).2, xP (aop st d sg N S (bitsOf nar)).2, j1, j2, j3, j4) := by
  unfold f_X_finish bitsOf
  by_cases h : nar = 0
  · rw [if_pos h, if_pos h]
    exact fin_12 hd (by decide) hsg hz hV hR hs hp1 hp2
  · rw [if_neg h, if_neg h]
    exact fin_12 hd (by decide) hsg hz hV hR hs hp1 hp2
