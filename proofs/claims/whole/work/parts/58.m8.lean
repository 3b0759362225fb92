/-! PURE: Exact.sum -/
def sumZ (sg1 sg2 p1 p2 : Int) (V1 V2 : Nat) : Int := sg1 * ((V1 * 2 ^ (p1 + 2000).toNat : Nat) : Int) + sg2 * ((V2 * 2 ^ (p2 + 2000).toNat : Nat) : Int)
set_option maxHeartbeats 1000000 in
theorem sum_ok {sg1 sg2 p1 p2 : Int} {V1 V2 : Nat} (h1 : sg1 = -1 ∨ sg1 = 0 ∨ sg1 = 1) (h2 : sg2 = -1 ∨ sg2 = 0 ∨ sg2 = 1) (z1 : sg1 = 0 ↔ V1 = 0) (z2 : sg2 = 0 ↔ V2 = 0) (b1 : V1 < 2 ^ 110) (b2 : V2 < 2 ^ 110) (r1 : -1700 < p1 ∧ p1 < 1000) (r2 : -1700 < p2 ∧ p2 < 1000) :
    ∃ o : SumO, f_E_sum (iI sg1) (hW V1) (lW V1) (iI p1) (bI false) (iI sg2) (hW V2) (lW V2) (iI p2) (bI false) = some o ∧ ∃ (V : Nat) (p : Int) (s : Bool), SelP o (iI (sumZ sg1 sg2 p1 p2 V1 V2).sign) V p s ∧ Rep (sumZ sg1 sg2 p1 p2 V1 V2).natAbs false V p s ∧ V < 2 ^ 128 ∧ (s = false ∨ 62 < bl V) ∧ -1830 ≤ p ∧ p < 1000 ∧ (0 ≤ sg1 → 0 ≤ sg2 → s = false ∨ 126 ≤ bl V) := by
  unfold f_E_sum
  unfold sumZ
  by_cases c2 : sg2 = 0
  · have hV : V2 = 0 := z2.mp c2
    refine ⟨_, if_pos ((iI_eq0 (by omega) (by omega)).mpr c2), V1, p1, false, Or.inl ⟨rfl, ?_, rfl, rfl, rfl, rfl⟩, ?_, by omega, Or.inl rfl, by omega, by omega, fun _ _ => Or.inl rfl⟩
    · show iI sg1 = _
      congr 1
      subst hV; simp
      rcases h1 with rfl | rfl | rfl
      · have : V1 ≠ 0 := fun z => by have := z1.mpr z; omega
        have := (sign_mulN (sg := -1) (N := V1 * 2 ^ (p1 + 2000).toNat) (Or.inl rfl)).1
        rw [if_neg (by have := Nat.two_pow_pos (p1 + 2000).toNat; intro z; rcases Nat.mul_eq_zero.mp z with y | y <;> omega)] at this
        simpa using this.symm
      · simp
      · have : V1 ≠ 0 := fun z => by have := z1.mpr z; omega
        have := (sign_mulN (sg := 1) (N := V1 * 2 ^ (p1 + 2000).toNat) (Or.inr rfl)).1
        rw [if_neg (by have := Nat.two_pow_pos (p1 + 2000).toNat; intro z; rcases Nat.mul_eq_zero.mp z with y | y <;> omega)] at this
        simpa using this.symm
    · have e : (sg1 * ((V1 * 2 ^ (p1 + 2000).toNat : Nat) : Int) + sg2 * ((V2 * 2 ^ (p2 + 2000).toNat : Nat) : Int)).natAbs = V1 * 2 ^ (p1 + 2000).toNat := by
        subst hV; subst c2; simp only [Int.zero_mul, Int.add_zero]
        rcases h1 with rfl | rfl | rfl
        · exact (sign_mulN (Or.inl rfl)).2
        · have := z1.mp rfl; subst this; simp
        · exact (sign_mulN (Or.inr rfl)).2
      rw [e]; exact Rep_self (by omega)
  · have n2 : ¬ iI sg2 = 0 := fun q => c2 ((iI_eq0 (by omega) (by omega)).mp q)
    have v2 : V2 ≠ 0 := fun q => c2 (z2.mpr q)
    by_cases c1 : sg1 = 0
    · have hV : V1 = 0 := z1.mp c1
      refine ⟨_, (if_neg n2).trans (if_pos ((iI_eq0 (by omega) (by omega)).mpr c1)), V2, p2, false, Or.inr ⟨rfl, ?_, rfl, rfl, rfl, rfl⟩, ?_, by omega, Or.inl rfl, by omega, by omega, fun _ _ => Or.inl rfl⟩
      · show iI sg2 = _
        congr 1
        subst hV; subst c1; simp only [Int.zero_mul, Int.zero_add]
        have := (sign_mulN (sg := sg2) (N := V2 * 2 ^ (p2 + 2000).toNat) (by omega)).1
        rw [if_neg (by have := Nat.two_pow_pos (p2 + 2000).toNat; intro z; rcases Nat.mul_eq_zero.mp z with y | y <;> omega)] at this
        exact this.symm
      · have e : (sg1 * ((V1 * 2 ^ (p1 + 2000).toNat : Nat) : Int) + sg2 * ((V2 * 2 ^ (p2 + 2000).toNat : Nat) : Int)).natAbs = V2 * 2 ^ (p2 + 2000).toNat := by
          subst hV; subst c1; simp only [Int.zero_mul, Int.zero_add]
          exact (sign_mulN (by omega)).2
        rw [e]; exact Rep_self (by omega)
    · have n1 : ¬ iI sg1 = 0 := fun q => c1 ((iI_eq0 (by omega) (by omega)).mp q)
      have v1 : V1 ≠ 0 := fun q => c1 (z1.mpr q)
      have g1 : sg1 = -1 ∨ sg1 = 1 := by omega
      have g2 : sg2 = -1 ∨ sg2 = 1 := by omega
      have k1 : bl V1 ≤ 110 := bl_le_iff.mpr b1
      have k2 : bl V2 ≤ 110 := bl_le_iff.mpr b2
      have kp1 := bl_pos v1
      have kp2 := bl_pos v2
      rw [if_neg n2, if_neg n1]
      obtain ⟨bA, lA⟩ := lift_bl v1 (by omega : bl V1 ≤ 126)
      obtain ⟨bB, lB⟩ := lift_bl v2 (by omega : bl V2 ≤ 126)
      have hdA : V1 * 2 ^ (126 - bl V1) % 2 ^ (126 - bl V1) = 0 := mul_pow_mod _ (Nat.le_refl _)
      have hdB : V2 * 2 ^ (126 - bl V2) % 2 ^ (126 - bl V2) = 0 := mul_pow_mod _ (Nat.le_refl _)
      have LA := lift_up (V := V1) (p := p1) (bI false) (by omega)
      have LB := lift_up (V := V2) (p := p2) (bI false) (by omega)
      obtain ⟨qA, hqA⟩ : ∃ q : Nat, (q : Int) = p1 - (126 - bl V1) + 2000 := ⟨(p1 - (126 - bl V1) + 2000).toNat, by omega⟩
      obtain ⟨qB, hqB⟩ : ∃ q : Nat, (q : Int) = p2 - (126 - bl V2) + 2000 := ⟨(p2 - (126 - bl V2) + 2000).toNat, by omega⟩
      have NA : V1 * 2 ^ (p1 + 2000).toNat = V1 * 2 ^ (126 - bl V1) * 2 ^ qA := by
        rw [Nat.mul_assoc, ← Nat.pow_add]; congr 2; omega
      have NB : V2 * 2 ^ (p2 + 2000).toNat = V2 * 2 ^ (126 - bl V2) * 2 ^ qB := by
        rw [Nat.mul_assoc, ← Nat.pow_add]; congr 2; omega
      rw [NA, NB]
      have eA : p1 - (126 - (bl V1 : Int)) = (qA : Int) - 2000 := by omega
      have eB : p2 - (126 - (bl V2 : Int)) = (qB : Int) - 2000 := by omega
      have kk1 : 16 ≤ 126 - bl V1 := by omega
      have kk2 : 16 ≤ 126 - bl V2 := by omega
      have bqA : qA < 3000 := by omega
      have bqB : qB < 3000 := by omega
      have ra1 : -1830 ≤ (qA : Int) - 2000 ∧ (qA : Int) - 2000 < 1000 := by omega
      have rb1 : -1830 ≤ (qB : Int) - 2000 ∧ (qB : Int) - 2000 < 1000 := by omega
      rw [eA] at LA
      rw [eB] at LB
      generalize 126 - bl V1 = kA at *
      generalize 126 - bl V2 = kB at *
      generalize V1 * 2 ^ kA = A at *
      generalize V2 * 2 ^ kB = B at *
      have S := size_ok LA LB (by omega) (by omega) (by omega) (by omega) (by omega) (by omega)
      rw [S]
      simp only [Option.bind_some]
      have hA0 : A ≠ 0 := fun z => by rw [z] at bA; simp [bl] at bA
      have hB0 : B ≠ 0 := fun z => by rw [z] at bB; simp [bl] at bB
      have blA := bl_mul A qA hA0
      have blB := bl_mul B qB hB0
      by_cases hlt : ordv ((qA : Int) - 2000) A false ((qB : Int) - 2000) B false < 0
      · -- the second is greater
        have hb : -1 ≤ ordv ((qA : Int) - 2000) A false ((qB : Int) - 2000) B false := by
          unfold ordv; split <;> (try split) <;> (try split) <;> (try split) <;> decide
        rw [if_pos ((iI_lt0 (by omega) (by omega)).mpr hlt)]
        have hq : qA ≤ qB ∧ A * 2 ^ qA < B * 2 ^ qB := by
          unfold ordv at hlt
          split at hlt
          · next e =>
            have e' : qA = qB := by omega
            subst e'
            split at hlt
            · simp at hlt
            · split at hlt
              · next l => exact ⟨Nat.le_refl _, Nat.mul_lt_mul_of_pos_right l (Nat.two_pow_pos _)⟩
              · omega
          · split at hlt
            · next l => exact ⟨by omega, bl_cmp (by omega)⟩
            · omega
        obtain ⟨hq1, hq2⟩ := hq
        have hd : (((qB : Int) - 2000) - ((qA : Int) - 2000)).toNat = qB - qA := by omega
        by_cases hsg : sg2 = sg1
        · subst hsg
          have T := tl_same (V1 := B) (V2 := A) (sg := iI sg2) (mo := bI false) lB lA (show (qA : Int) - 2000 ≤ (qB : Int) - 2000 by omega) (by omega) rfl rfl
          rw [hd] at T
          rw [T]
          have R := ab_add (VA := B) (VB := A) hq1
          have hz : sg2 * ((A * 2 ^ qA : Nat) : Int) + sg2 * ((B * 2 ^ qB : Nat) : Int) = sg2 * ((B * 2 ^ qB + A * 2 ^ qA : Nat) : Int) := by
            rw [Int.natCast_add, Int.mul_add, Int.add_comm]
          have hs := sign_mulN (N := B * 2 ^ qB + A * 2 ^ qA) g2
          have hBp : 0 < B * 2 ^ qB := Nat.mul_pos (by omega) (Nat.two_pow_pos _)
          rw [hz, hs.1, hs.2, if_neg (show ¬ B * 2 ^ qB + A * 2 ^ qA = 0 by omega)]
          have hlt2 : A / 2 ^ (qB - qA) ≤ A := Nat.div_le_self _ _
          exact ⟨_, rfl, _, _, _, Or.inr ⟨rfl, rfl, rfl, rfl, rfl, rfl⟩, R, by omega, Or.inr (bl_lt_iff.mpr (Nat.le_trans (Nat.le_trans (show 2 ^ 62 ≤ 2 ^ (126 - 1) by decide) (by have := bl_le hB0; rw [bB] at this; exact this)) (Nat.le_add_right _ _))), rb1.1, rb1.2, fun _ _ => Or.inr (bl_lt_iff.mpr (Nat.le_trans (by have := bl_le hB0; rw [bB] at this; exact this) (Nat.le_add_right _ _)))⟩
        · have hge := ab_sub (VA := B) (VB := A) hq1 (Nat.le_of_lt hq2)
          obtain ⟨R, hle⟩ := hge
          have T := tl_diff (V1 := B) (V2 := A) (sg := iI sg2) (sg2 := iI sg1) (mo := bI false) (fun q => hsg ((iI_eq (by omega) (by omega) (by omega) (by omega)).mp q)) lB lA (show (qA : Int) - 2000 ≤ (qB : Int) - 2000 by omega) (by omega) rfl rfl (by rw [hd]; exact hle)
          rw [hd] at T
          rw [T]
          have hz : sg1 * ((A * 2 ^ qA : Nat) : Int) + sg2 * ((B * 2 ^ qB : Nat) : Int) = sg2 * ((B * 2 ^ qB - A * 2 ^ qA : Nat) : Int) := by
            rw [Int.ofNat_sub (Nat.le_of_lt hq2)]
            have : sg1 = -sg2 := by omega
            rw [this, Int.mul_sub, Int.neg_mul]; omega
          have hs := sign_mulN (N := B * 2 ^ qB - A * 2 ^ qA) g2
          rw [hz, hs.1, hs.2, if_neg (show ¬ B * 2 ^ qB - A * 2 ^ qA = 0 by omega)]
          have htop : decide (A % 2 ^ (qB - qA) ≠ 0) = false ∨ 62 < bl (B - A / 2 ^ (qB - qA) - (decide (A % 2 ^ (qB - qA) ≠ 0)).toNat) := by
            cases hdz : decide (A % 2 ^ (qB - qA) ≠ 0) with
            | false => exact Or.inl rfl
            | true => rw [← hdz]; exact Or.inr (ab_top bB lA kk1 hdA hdz)
          have hnz : ¬ B - A / 2 ^ (qB - qA) - (decide (A % 2 ^ (qB - qA) ≠ 0)).toNat = 0 := by
            intro z
            rcases htop with q | q
            · obtain ⟨q', -, e1, e2⟩ := R
              rw [z] at e1
              rw [q] at e2
              have hm : (B * 2 ^ qB - A * 2 ^ qA) % 2 ^ q' = 0 := by simpa using e2.symm
              have := div_mul_pow hm
              rw [← e1, Nat.zero_mul] at this
              omega
            · rw [z] at q; simp [bl] at q
          rw [if_neg hnz]
          exact ⟨_, rfl, _, _, _, Or.inr ⟨rfl, rfl, rfl, rfl, rfl, rfl⟩, R, Nat.lt_of_le_of_lt (Nat.le_trans (Nat.sub_le _ _) (Nat.sub_le _ _)) (show B < 2 ^ 128 by omega), htop, rb1.1, rb1.2, fun q r => absurd (by omega : sg2 = sg1) hsg⟩
      · -- the first is not less
        have hb : ordv ((qA : Int) - 2000) A false ((qB : Int) - 2000) B false ≤ 1 := by
          unfold ordv; split <;> (try split) <;> (try split) <;> (try split) <;> decide
        rw [if_neg (fun q => hlt ((iI_lt0 (by omega) (by omega)).mp q))]
        have hq : qB ≤ qA ∧ B * 2 ^ qB ≤ A * 2 ^ qA := by
          unfold ordv at hlt
          split at hlt
          · next e =>
            have e' : qA = qB := by omega
            subst e'
            split at hlt
            · next l => subst l; exact ⟨Nat.le_refl _, Nat.le_refl _⟩
            · split at hlt
              · exact absurd hlt (by decide)
              · next l => exact ⟨Nat.le_refl _, Nat.mul_le_mul_right _ (by omega)⟩
          · split at hlt
            · exact absurd hlt (by decide)
            · next l => exact ⟨by omega, Nat.le_of_lt (bl_cmp (by omega))⟩
        obtain ⟨hq1, hq2⟩ := hq
        have hd : (((qA : Int) - 2000) - ((qB : Int) - 2000)).toNat = qA - qB := by omega
        by_cases hsg : sg1 = sg2
        · subst hsg
          have T := tl_same (V1 := A) (V2 := B) (sg := iI sg1) (mo := bI false) lA lB (show (qB : Int) - 2000 ≤ (qA : Int) - 2000 by omega) (by omega) rfl rfl
          rw [hd] at T
          rw [T]
          have R := ab_add (VA := A) (VB := B) hq1
          have hz : sg1 * ((A * 2 ^ qA : Nat) : Int) + sg1 * ((B * 2 ^ qB : Nat) : Int) = sg1 * ((A * 2 ^ qA + B * 2 ^ qB : Nat) : Int) := by
            rw [Int.natCast_add, Int.mul_add]
          have hs := sign_mulN (N := A * 2 ^ qA + B * 2 ^ qB) g1
          have hAp : 0 < A * 2 ^ qA := Nat.mul_pos (by omega) (Nat.two_pow_pos _)
          rw [hz, hs.1, hs.2, if_neg (show ¬ A * 2 ^ qA + B * 2 ^ qB = 0 by omega)]
          have hlt2 : B / 2 ^ (qA - qB) ≤ B := Nat.div_le_self _ _
          exact ⟨_, rfl, _, _, _, Or.inl ⟨rfl, rfl, rfl, rfl, rfl, rfl⟩, R, by omega, Or.inr (bl_lt_iff.mpr (Nat.le_trans (Nat.le_trans (show 2 ^ 62 ≤ 2 ^ (126 - 1) by decide) (by have := bl_le hA0; rw [bA] at this; exact this)) (Nat.le_add_right _ _))), ra1.1, ra1.2, fun _ _ => Or.inr (bl_lt_iff.mpr (Nat.le_trans (by have := bl_le hA0; rw [bA] at this; exact this) (Nat.le_add_right _ _)))⟩
        · obtain ⟨R, hle⟩ := ab_sub (VA := A) (VB := B) hq1 hq2
          have T := tl_diff (V1 := A) (V2 := B) (sg := iI sg1) (sg2 := iI sg2) (mo := bI false) (fun q => hsg ((iI_eq (by omega) (by omega) (by omega) (by omega)).mp q)) lA lB (show (qB : Int) - 2000 ≤ (qA : Int) - 2000 by omega) (by omega) rfl rfl (by rw [hd]; exact hle)
          rw [hd] at T
          rw [T]
          have hz : sg1 * ((A * 2 ^ qA : Nat) : Int) + sg2 * ((B * 2 ^ qB : Nat) : Int) = sg1 * ((A * 2 ^ qA - B * 2 ^ qB : Nat) : Int) := by
            rw [Int.ofNat_sub hq2]
            have : sg2 = -sg1 := by omega
            rw [this, Int.mul_sub, Int.neg_mul]; omega
          have hs := sign_mulN (N := A * 2 ^ qA - B * 2 ^ qB) g1
          rw [hz, hs.1, hs.2]
          have htop : decide (B % 2 ^ (qA - qB) ≠ 0) = false ∨ 62 < bl (A - B / 2 ^ (qA - qB) - (decide (B % 2 ^ (qA - qB) ≠ 0)).toNat) := by
            cases hdz : decide (B % 2 ^ (qA - qB) ≠ 0) with
            | false => exact Or.inl rfl
            | true => rw [← hdz]; exact Or.inr (ab_top bA lB kk2 hdB hdz)
          have hnz : A - B / 2 ^ (qA - qB) - (decide (B % 2 ^ (qA - qB) ≠ 0)).toNat = 0 ↔ A * 2 ^ qA - B * 2 ^ qB = 0 := by
            obtain ⟨q', -, e1, e2⟩ := id R
            constructor
            · intro z
              rcases htop with q | q
              · rw [z] at e1
                rw [q] at e2
                have hm : (A * 2 ^ qA - B * 2 ^ qB) % 2 ^ q' = 0 := by simpa using e2.symm
                have := div_mul_pow hm
                rw [← e1, Nat.zero_mul] at this
                exact this
              · rw [z] at q; simp [bl] at q
            · intro z; rw [e1, z, Nat.zero_div]
          have hsgn : (if A - B / 2 ^ (qA - qB) - (decide (B % 2 ^ (qA - qB) ≠ 0)).toNat = 0 then (0 : Int32) else iI sg1) = iI (if A * 2 ^ qA - B * 2 ^ qB = 0 then 0 else sg1) := by
            by_cases z : A * 2 ^ qA - B * 2 ^ qB = 0
            · rw [if_pos (hnz.mpr z), if_pos z]; rfl
            · rw [if_neg (fun y => z (hnz.mp y)), if_neg z]
          rw [hsgn]
          exact ⟨_, rfl, _, _, _, Or.inl ⟨rfl, rfl, rfl, rfl, rfl, rfl⟩, R, Nat.lt_of_le_of_lt (Nat.le_trans (Nat.sub_le _ _) (Nat.sub_le _ _)) (show A < 2 ^ 128 by omega), htop, ra1.1, ra1.2, fun q r => absurd (by omega : sg1 = sg2) hsg⟩
