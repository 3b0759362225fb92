/-! PURE: Y's top bits, sum, addition, fused -/
theorem sm31 : ∀ j, j < 28 → ((nI j &&& 31).toBitVec.smod 32).toNat = j := by decide +kernel
theorem tbit {X k : Nat} (h : k < 840) : ((lb X (nI k / (28 : Int32)).toNatClampNeg) >>> ((nI k - nI k / (28 : Int32) * (28 : Int32)) &&& 31)) &&& (1 : Int32) = nI (X / 2 ^ k % 2) := by
  rw [show (28 : Int32) = nI 28 from rfl, pk_rem (by omega) (by decide) (by decide), pk_div (by omega) (by decide) (by decide), cl30 (by omega)]
  have hl := lm_lt X (k / 28)
  unfold lb
  rw [pk_shrN (by omega) _ (k % 28) (sm31 _ (Nat.mod_lt _ (by decide))), pk_andN (k := 1) (Nat.lt_of_le_of_lt (Nat.div_le_self _ _) (by omega)) (by decide)]
  congr 1
  unfold lm
  have e : 2 ^ 28 = 2 ^ (k % 28) * 2 ^ (28 - k % 28) := by rw [← Nat.pow_add]; congr 1; omega
  rw [e, Nat.mod_mul_right_div_self, Nat.div_div_eq_div_mul, ← Nat.pow_add, show 28 * (k / 28) + k % 28 = k by omega, Nat.pow_one]
  obtain ⟨m, hm⟩ : ∃ m, 28 - k % 28 = m + 1 := ⟨27 - k % 28, by omega⟩
  rw [hm, Nat.mod_mod_of_dvd _ ⟨2 ^ m, by rw [Nat.pow_succ, Nat.mul_comm]⟩]
theorem tidx {k : Nat} (h : k < 840) : ¬ ((nI k / (28 : Int32)) < 0 ∨ 30 ≤ (nI k / (28 : Int32)).toNatClampNeg) := by
  rw [show (28 : Int32) = nI 28 from rfl, pk_div (by omega) (by decide) (by decide)]; exact in30 (by omega)
theorem xmod (X k : Nat) : X % 2 ^ (k + 1) = X % 2 ^ k + 2 ^ k * (X / 2 ^ k % 2) := by rw [Nat.pow_succ, Nat.mod_mul]
theorem xdiv (X k : Nat) : X / 2 ^ k = X / 2 ^ k % 2 + 2 * (X / 2 ^ (k + 1)) := by rw [Nat.pow_succ, ← Nat.div_div_eq_div_mul, Nat.mod_add_div]
theorem m1i {k : Nat} : nI k + (-1 : Int32) = iI ((k : Int) - 1) := by rw [← iI_nI, show (-1 : Int32) = iI (-1) by decide, iI_add]; rfl
theorem tt3 {X T : Nat} {E te : Int} : ∀ (k n : Nat) (re : Bool), k ≤ 840 → k < n → f_Y_takeTop_22 n (iI E) (60 : Int32) (iI ((k : Int) - 1)) (lN T) (iI te) (bI re) (lb X) = some (lN T, iI te, bI (re || decide (X % 2 ^ k ≠ 0))) := by
  intro k
  induction k with
  | zero =>
    intro n re _ hn
    obtain ⟨n, rfl⟩ : ∃ m, n = m + 1 := ⟨n - 1, by omega⟩
    rw [f_Y_takeTop_22, if_pos (show iI (((0 : Nat) : Int) - 1) < 0 by decide), Nat.pow_zero, Nat.mod_one, decide_eq_false (by decide), Bool.or_false]
  | succ k ih =>
    intro n re hk hn
    obtain ⟨n, rfl⟩ : ∃ m, n = m + 1 := ⟨n - 1, by omega⟩
    have hx := xmod X k
    have hp := Nat.two_pow_pos k
    rw [show ((k + 1 : Nat) : Int) - 1 = (k : Int) by omega, iI_nI, f_Y_takeTop_22, if_neg (nI_pos (by omega)), if_neg (tidx (by omega)), if_neg (by decide), tbit (by omega)]
    unfold f_Y_takeTop_56
    rw [if_pos (by decide), m1i]
    have b2 : X / 2 ^ k % 2 < 2 := Nat.mod_lt _ (by decide)
    by_cases h : X / 2 ^ k % 2 = 1
    · rw [h, if_pos (show nI 1 = 1 from rfl), show (1 : Int32) = bI true from rfl, ih n true (by omega) (by omega), Bool.true_or, decide_eq_true (by rw [hx, h]; omega), Bool.or_true]
    · have h0 : X / 2 ^ k % 2 = 0 := by omega
      rw [h0, if_neg (show ¬ nI 0 = 1 by decide), ih n re (by omega) (by omega), hx, h0, Nat.mul_zero, Nat.add_zero]
abbrev TT (X : Nat) (E : Int) : Int64 × Int32 × Int32 := (lN (X / 2 ^ (bl X - 60)), iI (E + (bl X - 60 : Nat)), bI (decide (X % 2 ^ (bl X - 60) ≠ 0)))
theorem tt2 {X : Nat} {E : Int} : ∀ (k n t H : Nat), k ≤ 840 → k < n → H = X / 2 ^ k → H ≠ 0 → bl H = t → t ≤ 60 → f_Y_takeTop_22 n (iI E) (nI t) (iI ((k : Int) - 1)) (lN H) (iI (E + k)) 0 (lb X) = some (TT X E) := by
  intro k
  induction k with
  | zero =>
    intro n t H _ hn hH h0 hb ht
    obtain ⟨n, rfl⟩ : ∃ m, n = m + 1 := ⟨n - 1, by omega⟩
    rw [Nat.pow_zero, Nat.div_one] at hH
    subst hH
    rw [f_Y_takeTop_22, if_pos (show iI (((0 : Nat) : Int) - 1) < 0 by decide)]
    unfold TT
    rw [show bl H - 60 = 0 by omega, Nat.pow_zero, Nat.div_one, Nat.mod_one]; rfl
  | succ k ih =>
    intro n t H hk hn hH h0 hb ht
    have bt := bl_div X (k + 1)
    have t0 := bl_pos h0
    by_cases e : t = 60
    · subst e
      have L := tt3 (X := X) (T := H) (E := E) (te := E + (k + 1 : Nat)) (k + 1) n false hk hn
      rw [show bI false = (0 : Int32) from rfl] at L
      rw [show nI 60 = (60 : Int32) from rfl, L, Bool.false_or]
      have : bl X - 60 = k + 1 := by rw [← hH, hb] at bt; omega
      unfold TT
      rw [this, hH]
    · obtain ⟨n, rfl⟩ : ∃ m, n = m + 1 := ⟨n - 1, by omega⟩
      have hx := xdiv X k
      rw [← hH] at hx
      have hH60 : H < 2 ^ 60 := bl_le_iff.mp (by omega)
      rw [show ((k + 1 : Nat) : Int) - 1 = (k : Int) by omega, iI_nI, f_Y_takeTop_22, if_neg (nI_pos (by omega)), if_neg (tidx (by omega)), if_neg (nI_ne0 (by omega) (by omega)), tbit (by omega)]
      unfold f_Y_takeTop_56
      have b2 : X / 2 ^ k % 2 < 2 := Nat.mod_lt _ (by decide)
      rw [if_neg (fun q => by have := (nI_leI (a := 60) (by decide) (by omega)).mp q; omega), m1i, nI_1, nI_l (by omega), show (2 : Int64) = lN 2 from rfl, lN_mul, lN_add, ← iI_nI k, iI_add]
      refine ih n (t + 1) _ (by omega) (by omega) (by rw [hx]; omega) (by omega) ?_ (by omega)
      have : bl (X / 2 ^ k) = bl X - k := bl_div X k
      rw [show 2 * H + X / 2 ^ k % 2 = X / 2 ^ k by omega, this]
      rw [← hH, hb] at bt; omega
theorem tt1 {X : Nat} {E : Int} : ∀ (k n : Nat), k ≤ 840 → k < n → X / 2 ^ k = 0 → f_Y_takeTop_22 n (iI E) 0 (iI ((k : Int) - 1)) 0 (iI E) 0 (lb X) = some (TT X E) := by
  intro k
  induction k with
  | zero =>
    intro n _ hn hH
    obtain ⟨n, rfl⟩ : ∃ m, n = m + 1 := ⟨n - 1, by omega⟩
    rw [Nat.pow_zero, Nat.div_one] at hH
    subst hH
    rw [f_Y_takeTop_22, if_pos (show iI (((0 : Nat) : Int) - 1) < 0 by decide)]
    unfold TT
    rw [show bl 0 - 60 = 0 from rfl, show E + ((0 : Nat) : Int) = E by omega]; rfl
  | succ k ih =>
    intro n hk hn hH
    obtain ⟨n, rfl⟩ : ∃ m, n = m + 1 := ⟨n - 1, by omega⟩
    have hx := xdiv X k
    rw [hH] at hx
    rw [show ((k + 1 : Nat) : Int) - 1 = (k : Int) by omega, iI_nI, f_Y_takeTop_22, if_neg (nI_pos (by omega)), if_neg (tidx (by omega)), if_pos rfl, tbit (by omega)]
    have b2 : X / 2 ^ k % 2 < 2 := Nat.mod_lt _ (by decide)
    by_cases h : X / 2 ^ k % 2 = 0
    · rw [h, if_pos (show nI 0 = 0 from rfl), m1i]
      exact ih n (by omega) (by omega) (by omega)
    · have h1 : X / 2 ^ k % 2 = 1 := by omega
      rw [h1, if_neg (show ¬ nI 1 = 0 by decide)]
      unfold f_Y_takeTop_56
      rw [if_neg (by decide), m1i, ← iI_nI k, iI_add]
      exact tt2 k n 1 1 (by omega) (by omega) (by omega) (by decide) (by decide) (by decide)
theorem takeT_ok {X : Nat} (hX : X < 2 ^ 840) {E : Int} (y1 : Int64) (y2 y3 : Int32) : f_Y_takeTop y1 y2 y3 (lb X) (iI E) = some (TT X E) := by
  unfold f_Y_takeTop
  exact tt1 840 1000 (by omega) (by omega) (Nat.div_eq_of_lt hX)
abbrev YL (g : Int32 × ASt) (j1 : Int64) (j2 j3 : Int32) (X Y : Nat) : Int32 × Int32 × Int32 × Int32 × Int64 × Int32 × Int32 × (Nat → Int64) × (Nat → Int32) × (Nat → Int32) × (Nat → Int32) × (Nat → Int32) := (g.1, g.2.2.2.1, g.2.2.2.2.1, g.2.2.2.2.2, j1, j2, j3, yO g.2, yN g.2, yB g.2, lb X, lb Y)
theorem s116 {st : ASt} {d P W : Nat} (hd : d < 8) (hP : 1 ≤ P ∧ P ≤ 53) (hW : W < 2 ^ 840) {ng : Bool} {z : Int} (hz : z = if ng = true then -((W * 2 ^ 1680 : Nat) : Int) else ((W * 2 ^ 1680 : Nat) : Int)) (t1 : Int64) (t2 t3 : Int32) (K : Nat → Int32) : ∃ (j1 : Int64) (j2 j3 : Int32), f_Y_sum_116 (nI d) (iI P) (bI ng) st.2.2.1 st.2.2.2.1 st.2.2.2.2 t1 t2 t3 (yO st) (yN st) (yB st) (lb W) K = some ((zop st d z P).1, (zop st d z P).2.2.2.1, (zop st d z P).2.2.2.2.1, (zop st d z P).2.2.2.2.2, j1, j2, j3, yO (zop st d z P).2, yN (zop st d z P).2, yB (zop st d z P).2, lb W, K) := by
  unfold f_Y_sum_116
  rw [show (-320 : Int32) = iI (-320) by decide, takeT_ok hW, Option.bind_some]
  have hb : bl W ≤ 840 := bl_le_iff.mpr hW
  have hbt := bl_div W (bl W - 60)
  have hT : W / 2 ^ (bl W - 60) < 2 ^ 60 := bl_le_iff.mp (by omega)
  have hN : z.natAbs = W * 2 ^ 1680 := by
    rw [hz]; cases ng
    · rw [if_neg (by decide), Int.natAbs_natCast]
    · rw [if_pos rfl, Int.natAbs_neg, Int.natAbs_natCast]
  have hR : Rep z.natAbs false (W / 2 ^ (bl W - 60)) (-320 + (bl W - 60 : Nat)) (decide (W % 2 ^ (bl W - 60) ≠ 0)) := by
    refine ⟨(bl W - 60) + 1680, by omega, ?_, ?_⟩
    · rw [hN, Nat.pow_add, Nat.mul_div_mul_right _ _ (Nat.two_pow_pos _)]
    · rw [hN, Nat.pow_add, Nat.mul_mod_mul_right, Bool.false_or, decide_eq_decide]
      have := Nat.two_pow_pos 1680
      generalize 2 ^ 1680 = p at *
      constructor
      · intro q r
        rcases Nat.mul_eq_zero.mp r with r | r
        · exact q r
        · omega
      · intro q r; exact q (by rw [r, Nat.zero_mul])
  have R := roundA (st := st) hd (ng := ng) (P := P) hP (by omega) (by omega) (by omega) hR (by
    by_cases c : bl W - 60 = 0
    · refine Or.inl ⟨rfl, ?_⟩
      rw [c, Nat.pow_zero, Nat.mod_one]; rfl
    · exact Or.inr (by omega)) (sg := z.sign) (by
    by_cases w : W = 0
    · refine Or.inr ⟨?_, by rw [hN, w, Nat.zero_mul], rfl⟩
      rw [hz, w, Nat.zero_mul]; cases ng <;> rfl
    · left
      have : 0 < W * 2 ^ 1680 := Nat.mul_pos (Nat.pos_of_ne_zero w) (Nat.two_pow_pos _)
      generalize W * 2 ^ 1680 = M at *
      rw [hz]; cases ng
      · exact Int.sign_eq_one_of_pos (by simp; omega)
      · exact Int.sign_eq_neg_one_of_neg (by simp; omega))
  rw [R, Option.bind_some]
  exact ⟨_, _, _, rfl⟩
theorem s86 {st : ASt} {d P W G : Nat} (hd : d < 8) (hP : 1 ≤ P ∧ P ≤ 53) (hW : W < 2 ^ 840) {ng : Bool} {z : Int} (hz : z = if ng = true then -((W * 2 ^ 1680 : Nat) : Int) else ((W * 2 ^ 1680 : Nat) : Int)) (t1 : Int64) (t2 t3 : Int32) : ∀ (n k : Nat) (C : Nat → Int32), k ≤ 30 → 30 - k < n → (∀ j, j < k → C j = lb W j) → (∀ j, 30 ≤ j → C j = 0) → ∃ (j1 : Int64) (j2 j3 : Int32), f_Y_sum_86 n (nI d) (bI ng) (iI P) (nI k) st.2.2.1 st.2.2.2.1 st.2.2.2.2 t1 t2 t3 (yO st) (yN st) (yB st) C (lb W) = some (YL (zop st d z P) j1 j2 j3 W W) := by
  intro n
  induction n with
  | zero => intro k C _ h; omega
  | succ n ih =>
    intro k C hk hn h1 h2
    rw [f_Y_sum_86]
    by_cases e : k = 30
    · subst e
      have : C = lb W := by
        funext j
        by_cases q : j < 30
        · exact h1 j q
        · rw [h2 j (by omega)]; unfold lb; rw [lm_big hW (by omega)]; rfl
      rw [if_pos (show (30 : Int32) ≤ nI 30 by decide), this]
      exact s116 hd hP hW hz t1 t2 t3 (lb W)
    · rw [if_neg (fun q => by have := (nI_leI (a := 30) (by decide) (by omega)).mp q; omega), if_neg (in30 (by omega)), if_neg (in30 (by omega)), cl30 (by omega), nI_1]
      refine ih (k + 1) _ (by omega) (by omega) ?_ ?_
      · intro j hj
        by_cases q : j = k
        · subst q; exact pk_us
        · rw [pk_un q]; exact h1 j (by omega)
      · intro j hj; rw [pk_un (by omega)]; exact h2 j hj
theorem s11 {st : ASt} {d P X Y : Nat} (hd : d < 8) (hP : 1 ≤ P ∧ P ≤ 53) (hY : Y < 2 ^ 840) (hW : X + Y < 2 ^ 840) {ng : Bool} {z : Int} (hz : z = if ng = true then -(((X + Y) * 2 ^ 1680 : Nat) : Int) else (((X + Y) * 2 ^ 1680 : Nat) : Int)) (t1 : Int64) (t2 t3 : Int32) : ∀ (n k : Nat), k ≤ 30 → 30 - k < n → ∃ (j1 : Int64) (j2 j3 : Int32), f_Y_sum_11 n (nI d) (iI P) (bI ng) (nI k) st.2.2.1 st.2.2.2.1 st.2.2.2.2 t1 t2 t3 (yO st) (yN st) (yB st) (lb (X + Y % 2 ^ (28 * k))) (lb Y) = some (YL (zop st d z P) j1 j2 j3 (X + Y) Y) := by
  intro n
  induction n with
  | zero => intro k _ h; omega
  | succ n ih =>
    intro k hk hn
    rw [f_Y_sum_11]
    by_cases e : k = 30
    · subst e
      rw [if_pos (show (30 : Int32) ≤ nI 30 by decide), Nat.mod_eq_of_lt hY]
      exact s116 hd hP hW hz t1 t2 t3 (lb Y)
    · have hl := lm_lt Y k
      have hm : Y % 2 ^ (28 * (k + 1)) = Y % 2 ^ (28 * k) + lm Y k * 2 ^ (28 * k) := by
        unfold lm
        rw [show 28 * (k + 1) = 28 * k + 28 from rfl, cut_mod, Nat.mul_comm (2 ^ (28 * k))]
      have hle := Nat.mod_le Y (2 ^ (28 * (k + 1)))
      rw [if_neg (fun q => by have := (nI_leI (a := 30) (by decide) (by omega)).mp q; omega), if_neg (in30 (by omega)), cl30 (by omega), nI_1, show lb Y k = nI (lm Y k) from rfl, nI_l (by omega), addAt_ok (by omega) (by omega) (by omega), Option.bind_some, Nat.add_assoc, ← hm]
      exact ih (k + 1) (by omega) (by omega)
theorem sumY_ok {st : ASt} {d P X Y : Nat} (hd : d < 8) (hP : 1 ≤ P ∧ P ≤ 53) (hX : X < 2 ^ 839) (hY : Y < 2 ^ 839) {f s : Bool} {z : Int} (hz : z = (if f = true then -((X * 2 ^ 1680 : Nat) : Int) else ((X * 2 ^ 1680 : Nat) : Int)) + (if s = true then -((Y * 2 ^ 1680 : Nat) : Int) else ((Y * 2 ^ 1680 : Nat) : Int))) (t1 : Int64) (t2 t3 : Int32) : ∃ (j1 : Int64) (j2 j3 : Int32) (X' Y' : Nat), X' < 2 ^ 840 ∧ Y' < 2 ^ 840 ∧ f_Y_sum st.2.2.1 st.2.2.2.1 st.2.2.2.2 t1 t2 t3 (yO st) (yN st) (yB st) (lb X) (lb Y) (nI d) (bI f) (bI s) (iI P) = some (YL (zop st d z P) j1 j2 j3 X' Y') := by
  have hp : 2 ^ 840 = 2 ^ 839 + 2 ^ 839 := by rw [show (840 : Nat) = 839 + 1 from rfl, Nat.pow_succ]; omega
  generalize hq : 2 ^ 839 = q839 at *
  have hX8 : X < 2 ^ 840 := by omega
  have hY8 : Y < 2 ^ 840 := by omega
  unfold f_Y_sum
  by_cases e : f = s
  · subst e
    have hz' : z = if f = true then -(((X + Y) * 2 ^ 1680 : Nat) : Int) else (((X + Y) * 2 ^ 1680 : Nat) : Int) := by
      rw [hz, Nat.add_mul]
      generalize X * 2 ^ 1680 = a
      generalize Y * 2 ^ 1680 = b
      cases f
      · simp
      · simp; omega
    obtain ⟨j1, j2, j3, E⟩ := s11 (st := st) hd hP hY8 (X := X) (by omega) hz' t1 t2 t3 1000 0 (by omega) (by omega)
    rw [Nat.mul_zero, Nat.pow_zero, Nat.mod_one, Nat.add_zero] at E
    rw [if_pos rfl]
    exact ⟨j1, j2, j3, X + Y, Y, by omega, hY8, E⟩
  · rw [if_neg (fun q => e ((bI_inj _ _).mp q)), cmpB_ok hX8 hY8, Option.bind_some]
    have c3 := cS_3 X Y
    have es : s = !f := by revert e; cases f <;> cases s <;> decide
    by_cases lt : X < Y
    · rw [if_pos ((iI_lt0 (by omega) (by omega)).mpr (by rw [cS_lt lt]; decide)), takeA_ok hY8 (by omega), Option.bind_some]
      have hz' : z = if s = true then -(((Y - X) * 2 ^ 1680 : Nat) : Int) else (((Y - X) * 2 ^ 1680 : Nat) : Int) := by
        obtain ⟨D, rfl⟩ : ∃ D, Y = X + D := ⟨Y - X, by omega⟩
        rw [hz, Nat.add_sub_cancel_left, es, Nat.add_mul]
        generalize X * 2 ^ 1680 = a
        generalize D * 2 ^ 1680 = b
        cases f
        · simp; omega
        · simp; omega
      obtain ⟨j1, j2, j3, E⟩ := s86 (st := st) (G := 0) hd hP (W := Y - X) (by omega) hz' t1 t2 t3 1000 0 (lb X) (by omega) (by omega) (fun j q => absurd q (by omega)) (fun j q => by unfold lb; rw [lm_big hX8 q]; rfl)
      exact ⟨j1, j2, j3, Y - X, Y - X, by omega, by omega, E⟩
    · have hc : ¬ cS X Y < 0 := by
        rcases Nat.lt_or_eq_of_le (Nat.le_of_not_lt lt) with r | r
        · rw [cS_gt r]; decide
        · rw [cS_eq r.symm]; decide
      rw [if_neg (fun r => hc ((iI_lt0 (by omega) (by omega)).mp r)), takeA_ok hX8 (by omega), Option.bind_some]
      have hz' : z = if f = true then -(((X - Y) * 2 ^ 1680 : Nat) : Int) else (((X - Y) * 2 ^ 1680 : Nat) : Int) := by
        obtain ⟨D, rfl⟩ : ∃ D, X = Y + D := ⟨X - Y, by omega⟩
        rw [hz, Nat.add_sub_cancel_left, es, Nat.add_mul]
        generalize Y * 2 ^ 1680 = a
        generalize D * 2 ^ 1680 = b
        cases f
        · simp; omega
        · simp; omega
      obtain ⟨j1, j2, j3, E⟩ := s116 (st := st) hd hP (W := X - Y) (by omega) hz' t1 t2 t3 (lb Y)
      exact ⟨j1, j2, j3, X - Y, Y, by omega, hY8, E⟩
