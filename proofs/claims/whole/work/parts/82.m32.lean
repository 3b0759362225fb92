/-! PURE: Y's divide -/
def pd (a s : Nat) : Nat := a * 2 ^ s / 2 ^ 53
theorem pd_s (a s : Nat) : pd a (s + 1) = 2 * pd a s + (if s ≤ 52 then a / 2 ^ (52 - s) % 2 else 0) := by
  unfold pd
  by_cases h : s ≤ 52
  · rw [if_pos h]
    have e1 : (2 : Nat) ^ 53 = 2 ^ (52 - s) * 2 ^ (s + 1) := by rw [← Nat.pow_add]; congr 1; omega
    have e2 : (2 : Nat) ^ 53 = 2 ^ (53 - s) * 2 ^ s := by rw [← Nat.pow_add]; congr 1; omega
    have e3 : a * 2 ^ (s + 1) / 2 ^ 53 = a / 2 ^ (52 - s) := by rw [e1, Nat.mul_div_mul_right _ _ (Nat.two_pow_pos _)]
    have e4 : a * 2 ^ s / 2 ^ 53 = a / 2 ^ (52 - s) / 2 := by
      rw [e2, Nat.mul_div_mul_right _ _ (Nat.two_pow_pos _), show 53 - s = (52 - s) + 1 by omega, Nat.pow_succ, Nat.div_div_eq_div_mul]
    rw [e3, e4]; omega
  · rw [if_neg h]
    have e1 : a * 2 ^ (s + 1) = a * 2 ^ (s - 52) * 2 ^ 53 := by rw [Nat.mul_assoc, ← Nat.pow_add]; congr 2; omega
    have e2 : a * 2 ^ s = a * 2 ^ (s - 53) * 2 ^ 53 := by rw [Nat.mul_assoc, ← Nat.pow_add]; congr 2; omega
    rw [e1, e2, Nat.mul_div_cancel _ (Nat.two_pow_pos _), Nat.mul_div_cancel _ (Nat.two_pow_pos _), show s - 52 = (s - 53) + 1 by omega, Nat.pow_succ, ← Nat.mul_assoc]
    omega
theorem bl_2 {T c : Nat} (hc : c ≤ 1) : bl (2 * T + c) = if 0 < bl T ∨ c = 1 then bl T + 1 else bl T := by
  have h := bl_div (2 * T + c) 1
  rw [Nat.pow_one, show (2 * T + c) / 2 = T by omega] at h
  by_cases z : T = 0
  · subst z
    by_cases e : c = 1
    · subst e; rfl
    · have : c = 0 := by omega
      subst this; rfl
  · have p := bl_pos z
    have q := bl_pos (n := 2 * T + c) (by omega)
    rw [if_pos (Or.inl p)]; omega
theorem bl_2le {T c : Nat} (hc : c ≤ 1) : bl (2 * T + c) ≤ bl T + 1 := by
  rw [bl_2 hc]; split <;> omega
theorem n10 : ¬ (1 : Int32) = 0 := by decide
theorem n0_lt {t : Nat} (h : t < 2 ^ 31) : (0 : Int32) < nI t ↔ 0 < t := nI_ltI (a := 0) (by decide) h
theorem c0_gt {a : Nat} (ha : a < 2 ^ 63) : 0 < lg_cmp (lN a) (0 : Int64) ↔ 0 < a := cN_gt (b := 0) ha (by decide)
theorem dv_87 {st : ASt} (K : Int32 → Int32 → Int32 → Int32 → Int64 → Int32 → Int32 → Int32 → Int32 → Int32 → Int64 → Int32 → Int32 → (Nat → Int64) → (Nat → Int32) → (Nat → Int32) → Option (Int32 × Int32 × Int32 × Int32 × Int64 × Int32 × Int32 × (Nat → Int64) × (Nat → Int32) × (Nat → Int32))) {j t T L1 L2 : Nat} (hj : j < 8) (hb : od (st.2.1 j) < 2 ^ 53) (hL : L2 + L1 < 2 ^ 60) (ht : t < 100) (x1 x2 x4 x8 lo ie ra te re : Int32) (N B : Nat → Int32) : f_Y_divide_87 K x1 x2 (nI j) x4 (nI t) x8 (lN L1) (lN L2) lo ie ra (lN T) te re (yO st) N B = K x1 x2 (nI j) x4 (lN (if od (st.2.1 j) ≤ L2 + L1 then L2 + L1 - od (st.2.1 j) else L2 + L1)) (nI (if 0 < t ∨ (if od (st.2.1 j) ≤ L2 + L1 then 1 else 0) = 1 then t + 1 else t)) x8 lo ie ra (lN (2 * T + if od (st.2.1 j) ≤ L2 + L1 then 1 else 0)) te re (yO st) N B := by
  unfold f_Y_divide_87 f_Y_divide_107 f_Y_divide_125 f_Y_divide_144
  simp only [if_neg (in8 hj)]
  simp only [cl8 hj]
  rw [show yO st j = lN (od (st.2.1 j)) from rfl, lN_add, show (2 : Int64) = lN 2 from rfl, lN_mul, nI_1]
  simp only [if_neg n10, if_true]
  by_cases h : od (st.2.1 j) ≤ L2 + L1
  · rw [if_neg (fun q => by have := (cN_lt (by omega) (by omega)).mp q; omega), if_pos h, if_pos h, if_pos (Or.inr rfl), lNsub h, show (1 : Int32).toInt64 = lN 1 from rfl, lN_add]
    split <;> rfl
  · rw [if_pos ((cN_lt (by omega) (by omega)).mpr (by omega)), if_neg h, if_neg h, show (0 : Int32).toInt64 = lN 0 from rfl, lN_add]
    by_cases t0 : 0 < t
    · rw [if_pos ((n0_lt (by omega)).mpr t0), if_pos (Or.inl t0)]
    · rw [if_neg (fun q => t0 ((n0_lt (by omega)).mp q)), if_neg (fun q => by rcases q with q | q; exact t0 q; exact absurd q (by decide))]
theorem dv_40 {st : ASt} {d i j a b : Nat} (hi : i < 8) (hj : j < 8) (ha : od (st.2.1 i) = a) (hb : od (st.2.1 j) = b) (a0 : a ≠ 0) (b0 : b ≠ 0) (a53 : a < 2 ^ 53) (b53 : b < 2 ^ 53) (a4 t2 t3 : Int32) : ∀ (n s : Nat), s ≤ 200 → 200 - s < n → bl (pd a s / b) ≤ 60 → ∃ s', s' ≤ 200 ∧ bl (pd a s' / b) = 60 ∧ f_Y_divide_40 n (nI d) (nI i) (nI j) a4 (lN (pd a s % b)) (nI (bl (pd a s / b))) (iI (53 - s)) st.2.2.1 st.2.2.2.1 st.2.2.2.2 (lN (pd a s / b)) t2 t3 (yO st) (yN st) (yB st) = f_Y_divide_165 (nI d) (nI i) (nI j) a4 (lN (pd a s' % b)) (iI (53 - s')) st.2.2.1 st.2.2.2.1 st.2.2.2.2 (lN (pd a s' / b)) t2 t3 (yO st) (yN st) (yB st) := by
  intro n
  induction n with
  | zero => intro s _ h; omega
  | succ n ih =>
    intro s hs hn h60
    rw [f_Y_divide_40, if_neg (in8 hi)]
    simp only [if_neg (in8 hi)]
    simp only [cl8 hi]
    rw [show yO st i = lN (od (st.2.1 i)) from rfl, ha, if_neg (fun q => a0 ((c0_le (by omega)).mp q))]
    by_cases e : bl (pd a s / b) = 60
    · rw [if_pos (by rw [e]; decide)]
      exact ⟨s, hs, e, rfl⟩
    · have hm := Nat.mod_lt (pd a s) (Nat.pos_of_ne_zero b0)
      have dm := Nat.div_add_mod (pd a s) b
      have s200 : s < 200 := by
        apply Nat.lt_of_not_le; intro q
        have h1 : pd a s / b < 2 ^ 59 := bl_le_iff.mp (by omega)
        have h2 : pd a s < 2 ^ 59 * b := (Nat.div_lt_iff_lt_mul (Nat.pos_of_ne_zero b0)).mp h1
        have h3 : 2 ^ 59 * b ≤ 2 ^ 59 * 2 ^ 53 := Nat.mul_le_mul_left _ (Nat.le_of_lt b53)
        have h4 : 2 ^ 112 ≤ pd a s := by
          unfold pd
          rw [Nat.le_div_iff_mul_le (Nat.two_pow_pos _), ← Nat.pow_add]
          calc (2 : Nat) ^ (112 + 53) ≤ 2 ^ s := pow_mono (by omega)
            _ ≤ a * 2 ^ s := Nat.le_mul_of_pos_left _ (Nat.pos_of_ne_zero a0)
        have h5 : (2 : Nat) ^ 59 * 2 ^ 53 = 2 ^ 112 := by rw [← Nat.pow_add]
        omega
      have ps := pd_s a s
      have key : ∀ bit, bit ≤ 1 → pd a (s + 1) = 2 * pd a s + bit → ∃ s', s' ≤ 200 ∧ bl (pd a s' / b) = 60 ∧ f_Y_divide_87 (f_Y_divide_40 n) (nI d) (nI i) (nI j) a4 (nI (bl (pd a s / b))) (iI (53 - s + -1)) (lN bit) (lN (2 * (pd a s % b))) st.2.2.1 st.2.2.2.1 st.2.2.2.2 (lN (pd a s / b)) t2 t3 (yO st) (yN st) (yB st) = f_Y_divide_165 (nI d) (nI i) (nI j) a4 (lN (pd a s' % b)) (iI (53 - s')) st.2.2.1 st.2.2.2.1 st.2.2.2.2 (lN (pd a s' / b)) t2 t3 (yO st) (yN st) (yB st) := by
        intro bit hbit hp
        rw [dv_87 _ hj (by omega) (by omega) (by omega), hb]
        have hq : pd a (s + 1) / b = 2 * (pd a s / b) + (if b ≤ 2 * (pd a s % b) + bit then 1 else 0) ∧ pd a (s + 1) % b = if b ≤ 2 * (pd a s % b) + bit then 2 * (pd a s % b) + bit - b else 2 * (pd a s % b) + bit := by
          have e1 : pd a (s + 1) = b * (2 * (pd a s / b)) + (2 * (pd a s % b) + bit) := by
            have : b * (2 * (pd a s / b)) = 2 * (b * (pd a s / b)) := by ac_rfl
            omega
          generalize pd a s % b = r at *
          generalize pd a s / b = t at *
          rw [e1, Nat.mul_add_div (Nat.pos_of_ne_zero b0), Nat.mul_add_mod]
          by_cases c : b ≤ 2 * r + bit
          · rw [if_pos c, if_pos c]
            obtain ⟨y, hy⟩ : ∃ y, 2 * r + bit = b + y := ⟨2 * r + bit - b, by omega⟩
            rw [hy, Nat.add_sub_cancel_left, Nat.add_mod_left, Nat.mod_eq_of_lt (by omega), Nat.add_div_left _ (Nat.pos_of_ne_zero b0), Nat.div_eq_of_lt (by omega)]
            exact ⟨rfl, rfl⟩
          · rw [if_neg c, if_neg c, Nat.mod_eq_of_lt (by omega), Nat.div_eq_of_lt (by omega)]
            exact ⟨rfl, rfl⟩
        have hbl := bl_2 (T := pd a s / b) (c := if b ≤ 2 * (pd a s % b) + bit then 1 else 0) (by split <;> decide)
        rw [← hbl, ← hq.1, ← hq.2, show (53 : Int) - (s : Int) + -1 = 53 - ((s + 1 : Nat) : Int) by omega]
        refine ih (s + 1) (by omega) (by omega) ?_
        have h61 := bl_2le (T := pd a s / b) (c := if b ≤ 2 * (pd a s % b) + bit then 1 else 0) (by split <;> decide)
        rw [hq.1]; omega
      rw [if_neg (fun q => by have := (nI_leI (a := 60) (by decide) (by omega)).mp q; omega), show (-1 : Int32) = iI (-1) by decide, iI_add, show (2 : Int64) = lN 2 from rfl, lN_mul]
      by_cases c : s ≤ 52
      · rw [if_pos c] at ps
        rw [if_neg (fun q => by have := (iI_lt0 (by omega) (by omega)).mp q; omega), jshr_i (by omega) (by omega) (by omega), wb_a1 (Nat.lt_of_le_of_lt (Nat.div_le_self _ _) (by omega)), show ((53 : Int) - s + -1).toNat = 52 - s by omega]
        exact key _ (by omega) ps
      · rw [if_neg c] at ps
        rw [if_pos ((iI_lt0 (by omega) (by omega)).mpr (by omega)), show (0 : Int64) = lN 0 from rfl]
        exact key 0 (by omega) ps
/-- what the quotient stands for -/
theorem dv_rep {v w s : Nat} {te : Int} (hv : vok v) (hw : vok w) (w0 : w ≠ 0) (hs : s ≤ 200) (hte : te = ez v - ez w + (53 - s)) : Rep (dN v w) (dS v w) (pd (od v) s / od w) te (decide (pd (od v) s % od w ≠ 0 ∨ od v * 2 ^ s % 2 ^ 53 ≠ 0)) := by
  have fv := od_facts hv
  have fw := od_facts hw
  have o0 : 0 < od w := Nat.pos_of_ne_zero (fun z => w0 (fw.2.2.2.2.1.mp z))
  have a := fv.2.1
  have b := fw.2.1
  unfold val at a b
  obtain ⟨q, hq⟩ : ∃ q : Nat, (q : Int) = te + 2000 := ⟨(te + 2000).toNat, by omega⟩
  obtain ⟨y, hy⟩ : ∃ y : Nat, (y : Int) = ez v + 4000 := ⟨(ez v + 4000).toNat, by omega⟩
  have e1 : v * 2 ^ 2000 * 2 ^ s = od v * 2 ^ s * 2 ^ y := by
    have : v * 2 ^ 2000 = od v * 2 ^ y := by
      conv => lhs; rw [← a]
      rw [Nat.mul_assoc, ← Nat.pow_add, show (ez v + 2000).toNat + 2000 = y by omega]
    rw [this]; ac_rfl
  have e2 : w * 2 ^ q * 2 ^ s = 2 ^ 53 * od w * 2 ^ y := by
    have : w = od w * 2 ^ (ez w + 2000).toNat := b.symm
    conv => lhs; rw [this]
    rw [Nat.mul_assoc, Nat.mul_assoc, ← Nat.pow_add, ← Nat.pow_add, show (ez w + 2000).toNat + (q + s) = 53 + y by omega, Nat.pow_add, Nat.mul_comm (2 ^ 53) (od w), Nat.mul_assoc]
  have hps := Nat.two_pow_pos s
  have hpy := Nat.two_pow_pos y
  have d1 : v * 2 ^ 2000 / (w * 2 ^ q) = od v * 2 ^ s / (2 ^ 53 * od w) := by
    rw [← Nat.mul_div_mul_right _ _ hps, e1, e2, Nat.mul_div_mul_right _ _ hpy]
  have d2 : v * 2 ^ 2000 % (w * 2 ^ q) = 0 ↔ od v * 2 ^ s % (2 ^ 53 * od w) = 0 := by
    have h1 : v * 2 ^ 2000 % (w * 2 ^ q) * 2 ^ s = od v * 2 ^ s % (2 ^ 53 * od w) * 2 ^ y := by
      rw [← Nat.mul_mod_mul_right, e1, e2, Nat.mul_mod_mul_right]
    generalize v * 2 ^ 2000 % (w * 2 ^ q) = r1 at *
    generalize od v * 2 ^ s % (2 ^ 53 * od w) = r2 at *
    constructor
    · intro z
      rw [z, Nat.zero_mul] at h1
      rcases Nat.mul_eq_zero.mp h1.symm with c | c <;> omega
    · intro z
      rw [z, Nat.zero_mul] at h1
      rcases Nat.mul_eq_zero.mp h1 with c | c <;> omega
  refine ⟨q, hq, ?_, ?_⟩
  · unfold dN pd
    rw [Nat.div_div_eq_div_mul, Nat.div_div_eq_div_mul, d1]
  · unfold dN dS pd
    rw [← Bool.decide_or, decide_eq_decide]
    have m1 : v * 2 ^ 2000 % (w * 2 ^ q) = v * 2 ^ 2000 % w + w * (v * 2 ^ 2000 / w % 2 ^ q) := Nat.mod_mul
    have m2 : od v * 2 ^ s % (2 ^ 53 * od w) = od v * 2 ^ s % 2 ^ 53 + 2 ^ 53 * (od v * 2 ^ s / 2 ^ 53 % od w) := Nat.mod_mul
    generalize v * 2 ^ 2000 % (w * 2 ^ q) = r1 at *
    generalize od v * 2 ^ s % (2 ^ 53 * od w) = r2 at *
    generalize v * 2 ^ 2000 % w = r3 at *
    generalize v * 2 ^ 2000 / w % 2 ^ q = r4 at *
    generalize od v * 2 ^ s / 2 ^ 53 % od w = r5 at *
    generalize od v * 2 ^ s % 2 ^ 53 = r6 at *
    have z4 : w * r4 = 0 ↔ r4 = 0 := by
      constructor
      · intro z; rcases Nat.mul_eq_zero.mp z with c | c <;> omega
      · intro z; rw [z, Nat.mul_zero]
    generalize w * r4 = r7 at *
    omega
abbrev YT (g : Int32 × ASt) (j1 : Int64) (j2 j3 : Int32) : Int32 × Int32 × Int32 × Int32 × Int64 × Int32 × Int32 × (Nat → Int64) × (Nat → Int32) × (Nat → Int32) := (g.1, g.2.2.2.1, g.2.2.2.2.1, g.2.2.2.2.2, j1, j2, j3, yO g.2, yN g.2, yB g.2)
theorem dv_165 {st : ASt} (hI : Inv st) {d i j s : Nat} (hd : d < 8) (hi : i < 8) (hj : j < 8) (w0 : st.2.1 j ≠ 0) (hs : s ≤ 200) (h60 : bl (pd (od (st.2.1 i)) s / od (st.2.1 j)) ≤ 60) (hS : (dS (st.2.1 i) (st.2.1 j) = false ∧ od (st.2.1 i) = 0) ∨ bl (pd (od (st.2.1 i)) s / od (st.2.1 j)) = 60) (a4 t2 t3 : Int32) {g : Int32 × ASt} (hg : g = aop st d (zz st i * zz st j).sign (dN (st.2.1 i) (st.2.1 j)) (dS (st.2.1 i) (st.2.1 j)) (bitsOf a4)) : ∃ (j1 : Int64) (j2 j3 : Int32), f_Y_divide_165 (nI d) (nI i) (nI j) a4 (lN (pd (od (st.2.1 i)) s % od (st.2.1 j))) (iI (53 - s)) st.2.2.1 st.2.2.2.1 st.2.2.2.2 (lN (pd (od (st.2.1 i)) s / od (st.2.1 j))) t2 t3 (yO st) (yN st) (yB st) = some (YT g j1 j2 j3) := by
  have fi := od_facts (hI i).1
  have fj := od_facts (hI j).1
  have b0 : 0 < od (st.2.1 j) := Nat.pos_of_ne_zero (fun z => w0 (fj.2.2.2.2.1.mp z))
  have hm := Nat.mod_lt (pd (od (st.2.1 i)) s) b0
  have hT : pd (od (st.2.1 i)) s / od (st.2.1 j) < 2 ^ 60 := bl_le_iff.mp h60
  have hR := dv_rep (hI i).1 (hI j).1 w0 hs rfl
  have G : ∀ re : Bool, re = decide (pd (od (st.2.1 i)) s % od (st.2.1 j) ≠ 0 ∨ od (st.2.1 i) * 2 ^ s % 2 ^ 53 ≠ 0) → ∃ (j1 : Int64) (j2 j3 : Int32), f_Y_divide_201 (nI d) (nI i) (nI j) a4 (iI (53 - s)) (bI re) st.2.2.1 st.2.2.2.1 st.2.2.2.2 (lN (pd (od (st.2.1 i)) s / od (st.2.1 j))) t2 t3 (yO st) (yN st) (yB st) = some (YT g j1 j2 j3) := by
    intro re hre
    rw [← hre] at hR
    unfold f_Y_divide_201
    simp only [if_neg (in8 hi), if_neg (in8 hj)]
    simp only [cl8 hi, cl8 hj]
    rw [if_pos (bI_01 re), show yB st i = bI (st.1 i) from rfl, show yB st j = bI (st.1 j) from rfl, show yN st i = iI (ez (st.2.1 i)) from rfl, show yN st j = iI (ez (st.2.1 j)) from rfl, iI_sub, iI_add]
    have hz : (zz st i * zz st j).sign = (if (st.1 i != st.1 j) = true then -1 else 1) ∨ ((zz st i * zz st j).sign = 0 ∧ dN (st.2.1 i) (st.2.1 j) = 0 ∧ dS (st.2.1 i) (st.2.1 j) = false) := by
      rw [Int.sign_mul, zz_sign, zz_sign]; unfold sgn
      by_cases v0 : st.2.1 i = 0
      · right
        rw [if_pos v0, Int.zero_mul]
        refine ⟨rfl, ?_, ?_⟩
        · unfold dN; rw [v0, Nat.zero_mul, Nat.zero_div]
        · unfold dS; rw [v0, Nat.zero_mul, Nat.zero_mod]; rfl
      · left
        rw [if_neg v0, if_neg w0]
        cases st.1 i <;> cases st.1 j <;> rfl
    have R := fun ng (hng : ng = (st.1 i != st.1 j)) => roundA (st := st) hd (ng := ng) (P := bitsOf a4) (bitsOf_in a4) (by omega) (by omega) (by omega) hR (by
      rcases hS with ⟨q1, q2⟩ | q
      · refine Or.inl ⟨q1, ?_⟩
        rw [hre, q2, Nat.zero_mul, Nat.zero_mod]; unfold pd; rw [Nat.zero_mul, Nat.zero_div, Nat.zero_mod]; rfl
      · exact Or.inr (by omega)) (sg := (zz st i * zz st j).sign) (by rw [hng]; exact hz)
    simp only [← hg] at R
    unfold f_Y_divide_246
    rw [size_Y]
    simp only [Option.bind_some]
    by_cases e : st.1 i = st.1 j
    · rw [if_pos ((bI_inj _ _).mpr e), show (0 : Int32) = bI false from rfl, R false (by rw [e]; cases st.1 j <;> rfl), Option.bind_some]
      exact ⟨_, _, _, rfl⟩
    · rw [if_neg (fun q => e ((bI_inj _ _).mp q)), show (1 : Int32) = bI true from rfl, R true (by revert e; cases st.1 i <;> cases st.1 j <;> decide), Option.bind_some]
      exact ⟨_, _, _, rfl⟩
  unfold f_Y_divide_165
  by_cases l0 : pd (od (st.2.1 i)) s % od (st.2.1 j) = 0
  · rw [if_neg (fun q => by have := (c0_gt (by omega)).mp q; omega)]
    by_cases c : 53 ≤ s
    · rw [if_pos ((iI_le0 (by omega) (by omega)).mpr (by omega))]
      refine G false (Eq.symm (decide_eq_false ?_))
      rintro (q | q)
      · exact q l0
      · exact q (mul_pow_mod _ c)
    · obtain ⟨k, hk⟩ : ∃ k : Nat, (53 : Int) - s = k := ⟨53 - s, by omega⟩
      have e53 : (2 : Nat) ^ 53 = 2 ^ k * 2 ^ s := by rw [← Nat.pow_add]; congr 1; omega
      have em : od (st.2.1 i) * 2 ^ s % 2 ^ 53 = od (st.2.1 i) % 2 ^ k * 2 ^ s := by rw [e53, Nat.mul_mod_mul_right]
      have hps := Nat.two_pow_pos s
      have hpk := Nat.one_le_two_pow (n := k)
      have hml := Nat.mod_le (od (st.2.1 i)) (2 ^ k)
      rw [if_neg (fun q => by have := (iI_le0 (by omega) (by omega)).mp q; omega), if_neg (in8 hi), cl8 hi, show yO st i = lN (od (st.2.1 i)) from rfl]
      have hmask : lN (od (st.2.1 i)) &&& (jshl (1 : Int64) (iI (53 - s)) - (1 : Int64)) = lN (od (st.2.1 i) % 2 ^ k) := by
        rw [hk, show (1 : Int64) = lN 1 from rfl, jshl_i 1 (by omega) (by omega), Nat.one_mul, Int.toNat_natCast, lNsub hpk, wb_mask (by omega) (by omega)]
      rw [hmask]
      by_cases z : od (st.2.1 i) % 2 ^ k = 0
      · rw [if_pos ((c0_le (by omega)).mpr z)]
        refine G false (Eq.symm (decide_eq_false ?_))
        rintro (q | q)
        · exact q l0
        · rw [em, z, Nat.zero_mul] at q; exact q rfl
      · rw [if_neg (fun q => z ((c0_le (by omega)).mp q))]
        refine G true (Eq.symm (decide_eq_true (Or.inr ?_)))
        rw [em]; intro q
        rcases Nat.mul_eq_zero.mp q with q | q <;> omega
  · rw [if_pos ((c0_gt (by omega)).mpr (by omega))]
    exact G true (Eq.symm (decide_eq_true (Or.inl l0)))
theorem Y_div_ok {st : ASt} (hI : Inv st) (t1 : Int64) (t2 t3 a1 a2 a3 a4 : Int32) : ∃ (j1 : Int64) (j2 j3 : Int32), f_Y_divide st.2.2.1 st.2.2.2.1 st.2.2.2.2 t1 t2 t3 (yO st) (yN st) (yB st) a1 a2 a3 a4 = some ((A_div st a1 a2 a3 a4).1, (A_div st a1 a2 a3 a4).2.2.2.1, (A_div st a1 a2 a3 a4).2.2.2.2.1, (A_div st a1 a2 a3 a4).2.2.2.2.2, j1, j2, j3, yO (A_div st a1 a2 a3 a4).2, yN (A_div st a1 a2 a3 a4).2, yB (A_div st a1 a2 a3 a4).2) := by
  unfold f_Y_divide A_div
  by_cases h : tk st a1 a2 a3 a4
  · rw [ref_t hI h, Option.bind_some, if_pos rfl]
    have h' := h
    obtain ⟨h1, h2, h3, -⟩ := h'
    obtain ⟨d, hd, rfl⟩ := okr_nI h1
    obtain ⟨i, hi, rfl⟩ := okr_nI h2
    obtain ⟨j, hj, rfl⟩ := okr_nI h3
    have fi := od_facts (hI i).1
    have fj := od_facts (hI j).1
    rw [if_neg (in8 hj), cl8 hj, show yO st j = lN (od (st.2.1 j)) from rfl]
    by_cases w0 : st.2.1 j = 0
    · rw [if_pos ((c0_eq (by omega)).mpr (fj.2.2.2.2.1.mpr w0)), if_neg (show ¬ div_in st (nI d) (nI i) (nI j) a4 from fun q => by have := q.2; simp only [ix, cl8 hj] at this; exact this w0)]
      exact ⟨_, _, _, rfl⟩
    · have b0 : od (st.2.1 j) ≠ 0 := fun z => w0 (fj.2.2.2.2.1.mp z)
      have p0 : pd (od (st.2.1 i)) 0 = 0 := by
        unfold pd; rw [Nat.pow_zero, Nat.mul_one, Nat.div_eq_of_lt fi.1]
      rw [if_neg (fun q => b0 ((c0_eq (by omega)).mp q)), if_pos (show div_in st (nI d) (nI i) (nI j) a4 from ⟨h, by simp only [ix, cl8 hj]; exact w0⟩)]
      simp only [ix, cl8 hi, cl8 hj, cl8 hd]
      by_cases a0 : od (st.2.1 i) = 0
      · have E : f_Y_divide_40 1000 (nI d) (nI i) (nI j) a4 0 0 53 st.2.2.1 st.2.2.2.1 st.2.2.2.2 0 t2 t3 (yO st) (yN st) (yB st) = f_Y_divide_165 (nI d) (nI i) (nI j) a4 0 53 st.2.2.1 st.2.2.2.1 st.2.2.2.2 0 t2 t3 (yO st) (yN st) (yB st) := by
          rw [show (1000 : Nat) = 999 + 1 from rfl, f_Y_divide_40, if_neg (in8 hi), cl8 hi, show yO st i = lN (od (st.2.1 i)) from rfl, if_pos ((c0_le (by omega)).mpr a0)]
        have v0 := fi.2.2.2.2.1.mp a0
        have G := dv_165 hI hd hi hj w0 (s := 0) (by omega) (by rw [p0, Nat.zero_div]; decide) (Or.inl ⟨by unfold dS; rw [v0, Nat.zero_mul, Nat.zero_mod]; rfl, a0⟩) a4 t2 t3 rfl
        rw [p0, Nat.zero_div, Nat.zero_mod, show lN 0 = (0 : Int64) from rfl, show iI (53 - ((0 : Nat) : Int)) = (53 : Int32) from rfl, ← E] at G
        exact G
      · obtain ⟨s', hs', h60, E⟩ := dv_40 (st := st) (d := d) hi hj rfl rfl a0 b0 fi.1 fj.1 a4 t2 t3 1000 0 (by omega) (by omega) (by rw [p0, Nat.zero_div]; decide)
        rw [p0, Nat.zero_div, Nat.zero_mod, show lN 0 = (0 : Int64) from rfl, show iI (53 - ((0 : Nat) : Int)) = (53 : Int32) from rfl, show nI (bl 0) = (0 : Int32) from rfl] at E
        rw [E]
        exact dv_165 hI hd hi hj w0 hs' (by omega) (Or.inr h60) a4 t2 t3 rfl
  · rw [ref_f hI h, Option.bind_some, if_neg (by decide), if_neg (fun q => h q.1)]
    exact ⟨_, _, _, rfl⟩
