/-! PURE: Y's long numbers, 30 pieces of 28 bits -/
def lm (X k : Nat) : Nat := X / 2 ^ (28 * k) % 2 ^ 28
def lb (X : Nat) : Nat → Int32 := fun k => nI (lm X k)
theorem lm_lt (X k : Nat) : lm X k < 2 ^ 28 := Nat.mod_lt _ (by decide)
theorem in30 {k : Nat} (h : k < 30) : ¬ (nI k < 0 ∨ 30 ≤ (nI k).toNatClampNeg) := nI_in h (by decide)
theorem cl30 {k : Nat} (h : k < 30) : (nI k).toNatClampNeg = k := nI_clamp (by omega)
theorem lm_lo {A Y k j : Nat} (h : j < k) : lm (A + 2 ^ (28 * k) * Y) j = lm A j := by
  unfold lm
  have e : 2 ^ (28 * k) * Y = 2 ^ (28 * j) * (2 ^ 28 * (2 ^ (28 * (k - j - 1)) * Y)) := by
    rw [← Nat.mul_assoc, ← Nat.mul_assoc, ← Nat.pow_add, ← Nat.pow_add]
    rw [show 28 * j + 28 + 28 * (k - j - 1) = 28 * k by omega]
  rw [e, Nat.add_mul_div_left _ _ (Nat.two_pow_pos _), Nat.add_mul_mod_self_left]
theorem lm_hi {A Y k : Nat} (hA : A < 2 ^ (28 * k)) (t : Nat) : lm (A + 2 ^ (28 * k) * Y) (k + t) = lm Y t := by
  unfold lm
  rw [Nat.mul_add, Nat.pow_add, ← Nat.div_div_eq_div_mul, Nat.add_mul_div_left _ _ (Nat.two_pow_pos _), Nat.div_eq_of_lt hA, Nat.zero_add]
theorem lm_0 {x B : Nat} (hx : x < 2 ^ 28) : lm (x + 2 ^ 28 * B) 0 = x := by
  unfold lm; rw [Nat.mul_zero, Nat.pow_zero, Nat.div_one, Nat.add_mul_mod_self_left, Nat.mod_eq_of_lt hx]
theorem lm_s {x B t : Nat} (hx : x < 2 ^ 28) : lm (x + 2 ^ 28 * B) (t + 1) = lm B t := by
  have := lm_hi (A := x) (Y := B) (k := 1) hx t
  rw [Nat.add_comm t 1]; exact this
theorem lb_up {A x c B k : Nat} (hA : A < 2 ^ (28 * k)) (hx : x < 2 ^ 28) (hc : c < 2 ^ 28) : upd (lb (A + 2 ^ (28 * k) * (x + 2 ^ 28 * B))) k (nI c) = lb (A + 2 ^ (28 * k) * (c + 2 ^ 28 * B)) := by
  funext j
  unfold upd lb
  by_cases h : j = k
  · subst h
    have := lm_hi (Y := c + 2 ^ 28 * B) hA 0
    rw [if_pos rfl]
    exact congrArg nI ((lm_0 hc).symm.trans this.symm)
  · rw [if_neg h]
    rcases Nat.lt_or_gt_of_ne h with q | q
    · rw [lm_lo q, lm_lo q]
    · obtain ⟨t, rfl⟩ : ∃ t, j = k + (t + 1) := ⟨j - k - 1, by omega⟩
      rw [lm_hi hA, lm_hi hA, lm_s hx, lm_s hc]
/-- a number cut at a piece -/
theorem lb_cut (X k : Nat) : ∃ A x B, A < 2 ^ (28 * k) ∧ x < 2 ^ 28 ∧ X = A + 2 ^ (28 * k) * (x + 2 ^ 28 * B) ∧ lb X k = nI x ∧ X / 2 ^ (28 * k) = x + 2 ^ 28 * B ∧ X / 2 ^ (28 * (k + 1)) = B := by
  refine ⟨X % 2 ^ (28 * k), X / 2 ^ (28 * k) % 2 ^ 28, X / 2 ^ (28 * k) / 2 ^ 28, Nat.mod_lt _ (Nat.two_pow_pos _), Nat.mod_lt _ (by decide), ?_, rfl, ?_, ?_⟩
  · rw [Nat.mod_add_div, Nat.mod_add_div]
  · rw [Nat.mod_add_div]
  · rw [Nat.mul_add, Nat.pow_add, Nat.div_div_eq_div_mul, Nat.mul_one]
theorem lb_0 : (fun _ => 0) = lb 0 := by
  funext k; unfold lb lm; rw [Nat.zero_div]; rfl
theorem clr_ok {A B : Nat} {C : Nat → Int32} (hC : ∀ j, 30 ≤ j → C j = 0) : ∀ (n k : Nat), k ≤ 30 → 30 - k < n → (∀ j, j < k → C j = 0) → f_Y_clear_2 n (nI k) C = some (lb 0) := by
  intro n
  induction n generalizing C with
  | zero => intro k _ h; omega
  | succ n ih =>
    intro k hk hn h
    rw [f_Y_clear_2]
    by_cases e : k = 30
    · subst e
      rw [if_pos (show (30 : Int32) ≤ nI 30 by decide), ← lb_0]
      congr 1; funext j
      by_cases q : j < 30
      · exact h j q
      · exact hC j (by omega)
    · rw [if_neg (fun q => by have := (nI_leI (a := 30) (by decide) (by omega)).mp q; omega), if_neg (in30 (by omega)), cl30 (by omega), nI_1]
      refine ih ?_ (k + 1) (by omega) (by omega) ?_
      · intro j hj; rw [pk_un (by omega)]; exact hC j hj
      · intro j hj
        by_cases q : j = k
        · subst q; exact pk_us
        · rw [pk_un q]; exact h j (by omega)
theorem lm_big {X j : Nat} (h : X < 2 ^ 840) (hj : 30 ≤ j) : lm X j = 0 := by
  unfold lm
  rw [Nat.div_eq_of_lt (Nat.lt_of_lt_of_le h (pow_mono (by omega)))]
theorem clear_ok {X : Nat} (h : X < 2 ^ 840) : f_Y_clear (lb X) = some (lb 0) := by
  unfold f_Y_clear
  refine clr_ok (A := 0) (B := 0) ?_ 1000 0 (by omega) (by omega) (fun j q => absurd q (by omega))
  intro j hj
  unfold lb; rw [lm_big h hj]; rfl
theorem ad_6 : ∀ (n k c X : Nat), c < 2 ^ 62 → k < 1000 → 30 - k < n → X + c * 2 ^ (28 * k) < 2 ^ 840 → f_Y_addAt_6 n (lN c) (nI k) (lb X) = some (lb (X + c * 2 ^ (28 * k))) := by
  intro n
  induction n with
  | zero => intro k c X _ _ h; omega
  | succ n ih =>
    intro k c X hc hk hn hX
    rw [f_Y_addAt_6]
    by_cases c0 : c = 0
    · rw [if_pos ((c0_le (by omega)).mpr c0), c0, Nat.zero_mul, Nat.add_zero]
    · have k30 : k < 30 := by
        apply Nat.lt_of_not_le
        intro q
        have h1 : 2 ^ 840 ≤ 2 ^ (28 * k) := pow_mono (by omega)
        have h2 : 2 ^ (28 * k) ≤ c * 2 ^ (28 * k) := Nat.le_mul_of_pos_left _ (by omega)
        omega
      rw [if_neg (fun q => c0 ((c0_le (by omega)).mp q)), if_neg (in30 k30), if_neg (in30 k30), cl30 k30]
      obtain ⟨A, x, B, hA, hx, hXe, hl, -, -⟩ := lb_cut X k
      rw [hl, nI_l (by omega), lN_add, show (28 : Int32) = iI 28 from rfl, jshr_i (by omega) (by decide) (by decide), show (268435455 : Int64) = lN (2 ^ 28 - 1) from rfl, wb_mask (by omega) (by decide), lN_i, nI_1, hXe, lb_up hA hx (Nat.mod_lt _ (by decide)), show (28 : Int).toNat = 28 from rfl]
      have key : A + 2 ^ (28 * k) * ((c + x) % 2 ^ 28 + 2 ^ 28 * B) + (c + x) / 2 ^ 28 * 2 ^ (28 * (k + 1)) = A + 2 ^ (28 * k) * (x + 2 ^ 28 * B) + c * 2 ^ (28 * k) := by
        rw [show 28 * (k + 1) = 28 * k + 28 from rfl, Nat.pow_add, show (c + x) / 2 ^ 28 * (2 ^ (28 * k) * 2 ^ 28) = 2 ^ (28 * k) * (2 ^ 28 * ((c + x) / 2 ^ 28)) by ac_rfl, Nat.mul_comm c, Nat.add_assoc, Nat.add_assoc, ← Nat.mul_add, ← Nat.mul_add]
        congr 2
        have := Nat.mod_add_div (c + x) (2 ^ 28)
        omega
      rw [hXe, ← key] at hX
      rw [ih (k + 1) ((c + x) / 2 ^ 28) _ (by omega) (by omega) (by omega) hX, key]
theorem addAt_ok {c k X : Nat} (hc : c < 2 ^ 62) (hk : k < 900) (hX : X + c * 2 ^ (28 * k) < 2 ^ 840) : f_Y_addAt (lb X) (nI k) (lN c) = some (lb (X + c * 2 ^ (28 * k))) := by
  unfold f_Y_addAt; exact ad_6 1000 k c X hc (by omega) (by omega) hX
theorem as_val0 {v a b p q r : Nat} (h : a + r * b = v) : a * p * q + b * p * (q * r) = v * (p * q) := by
  rw [← h, Nat.add_mul]
  congr 1
  · ac_rfl
  · ac_rfl
theorem as_val (v s : Nat) : v % 2 ^ 28 * 2 ^ (s % 28) * 2 ^ (28 * (s / 28)) + v / 2 ^ 28 * 2 ^ (s % 28) * 2 ^ (28 * (s / 28 + 1)) = v * 2 ^ s := by
  have e : 2 ^ s = 2 ^ (s % 28) * 2 ^ (28 * (s / 28)) := by rw [← Nat.pow_add, Nat.mod_add_div]
  have e2 : 2 ^ (28 * (s / 28 + 1)) = 2 ^ (28 * (s / 28)) * 2 ^ 28 := by rw [← Nat.pow_add]; rfl
  rw [e, e2]
  exact as_val0 (Nat.mod_add_div v (2 ^ 28))
theorem addSh_ok {v s X : Nat} (hv : v < 2 ^ 62) (hs : s < 20000) (hX : X + v * 2 ^ s < 2 ^ 840) : f_Y_addShifted (lb X) (lN v) (nI s) = some (lb (X + v * 2 ^ s)) := by
  have av := as_val v s
  unfold f_Y_addShifted
  rw [show (28 : Int32) = nI 28 from rfl, pk_rem (by omega) (by decide) (by decide), pk_div (by omega) (by decide) (by decide), ← iI_nI (s % 28), show (268435455 : Int64) = lN (2 ^ 28 - 1) from rfl, wb_mask (by omega) (by decide), jshl_i _ (by omega) (by omega), nI_1]
  rw [show nI 28 = iI ((28 : Nat) : Int) from (iI_nI 28).symm, jshr_i (by omega) (by decide) (by decide), jshl_i _ (by omega) (by omega), Int.toNat_natCast, show ((28 : Nat) : Int).toNat = 28 from rfl]
  have p27 : 2 ^ (s % 28) ≤ 2 ^ 27 := pow_mono (by omega)
  have l1 : v % 2 ^ 28 * 2 ^ (s % 28) < 2 ^ 62 := Nat.lt_of_le_of_lt (Nat.mul_le_mul (show v % 2 ^ 28 ≤ 2 ^ 28 by omega) p27) (by decide)
  have l2 : v / 2 ^ 28 * 2 ^ (s % 28) < 2 ^ 62 := Nat.lt_of_le_of_lt (Nat.mul_le_mul (show v / 2 ^ 28 ≤ 2 ^ 34 by omega) p27) (by decide)
  generalize v % 2 ^ 28 * 2 ^ (s % 28) = c1 at *
  generalize v / 2 ^ 28 * 2 ^ (s % 28) = c2 at *
  rw [← av] at hX ⊢
  rw [addAt_ok l1 (by omega) (by omega), Option.bind_some, addAt_ok l2 (by omega) (by omega), Option.bind_some, Nat.add_assoc]
theorem ap_val {a b p r : Nat} (s : Nat) (hp : p = 2 ^ 27) (hr : r = 2 ^ s) : a % p * (b % p) * r + a % p * (b / p) * (r * p) + a / p * (b % p) * (r * p) + a / p * (b / p) * (r * (p * p)) = a * b * r := by
  have ha := Nat.mod_add_div a p
  have hb := Nat.mod_add_div b p
  generalize a % p = al at *
  generalize a / p = ah at *
  generalize b % p = bl' at *
  generalize b / p = bh at *
  rw [← ha, ← hb]
  simp only [Nat.add_mul, Nat.mul_add]
  have e1 : al * bh * (r * p) = al * (p * bh) * r := by ac_rfl
  have e2 : ah * bl' * (r * p) = p * ah * bl' * r := by ac_rfl
  have e3 : ah * bh * (r * (p * p)) = p * ah * (p * bh) * r := by ac_rfl
  rw [e1, e2, e3]
  omega
theorem addPr_ok {a b s X : Nat} (ha : a < 2 ^ 54) (hb : b < 2 ^ 54) (hs : s < 10000) (hX : X + a * b * 2 ^ s < 2 ^ 840) : f_Y_addProduct (lb X) (lN a) (lN b) (nI s) = some (lb (X + a * b * 2 ^ s)) := by
  have av := ap_val (a := a) (b := b) s rfl rfl
  unfold f_Y_addProduct
  rw [show (134217727 : Int64) = lN (2 ^ 27 - 1) from rfl, wb_mask (by omega) (by decide), wb_mask (by omega) (by decide), show (27 : Int32) = iI 27 from rfl, jshr_i (by omega) (by decide) (by decide), jshr_i (by omega) (by decide) (by decide), show (27 : Int).toNat = 27 from rfl, lN_mul, lN_mul, lN_mul, lN_mul, show iI 27 = nI 27 from rfl, nI_add, show (54 : Int32) = nI 54 from rfl, nI_add]
  have la : a % 2 ^ 27 < 2 ^ 27 := Nat.mod_lt _ (by decide)
  have lb' : b % 2 ^ 27 < 2 ^ 27 := Nat.mod_lt _ (by decide)
  have ha' : a / 2 ^ 27 < 2 ^ 27 := by omega
  have hb' : b / 2 ^ 27 < 2 ^ 27 := by omega
  have m : ∀ {x y : Nat}, x < 2 ^ 27 → y < 2 ^ 27 → x * y < 2 ^ 62 := fun {x y} h1 h2 => Nat.lt_of_le_of_lt (Nat.mul_le_mul (Nat.le_of_lt h1) (Nat.le_of_lt h2)) (by decide)
  have e1 : 2 ^ (s + 27) = 2 ^ s * 2 ^ 27 := Nat.pow_add _ _ _
  have e2 : 2 ^ (s + 54) = 2 ^ s * (2 ^ 27 * 2 ^ 27) := by rw [Nat.pow_add]
  rw [← av, ← e1, ← e2] at hX ⊢
  have m1 := m la lb'
  have m2 := m la hb'
  have m3 := m ha' lb'
  have m4 := m ha' hb'
  clear av e1 e2
  generalize a % 2 ^ 27 * (b % 2 ^ 27) = c1 at *
  generalize a % 2 ^ 27 * (b / 2 ^ 27) = c2 at *
  generalize a / 2 ^ 27 * (b % 2 ^ 27) = c3 at *
  generalize a / 2 ^ 27 * (b / 2 ^ 27) = c4 at *
  rw [addSh_ok m1 (by omega) (by omega), Option.bind_some, addSh_ok m2 (by omega) (by omega), Option.bind_some, addSh_ok m3 (by omega) (by omega), Option.bind_some, addSh_ok m4 (by omega) (by omega), Option.bind_some, Nat.add_assoc, Nat.add_assoc, Nat.add_assoc, Nat.add_assoc, Nat.add_assoc]
theorem cb_3 {X Y : Nat} : ∀ (k n : Nat), k ≤ 30 → k < n → X / 2 ^ (28 * k) = Y / 2 ^ (28 * k) → f_Y_compareBig_3 n (iI ((k : Int) - 1)) (lb X) (lb Y) = some (iI (cS X Y)) := by
  intro k
  induction k with
  | zero =>
    intro n _ hn h
    obtain ⟨n, rfl⟩ : ∃ m, n = m + 1 := ⟨n - 1, by omega⟩
    rw [Nat.mul_zero, Nat.pow_zero, Nat.div_one, Nat.div_one] at h
    rw [f_Y_compareBig_3, if_pos (show iI (((0 : Nat) : Int) - 1) < 0 by decide), cS_eq h]; rfl
  | succ k ih =>
    intro n hk hn h
    obtain ⟨n, rfl⟩ : ∃ m, n = m + 1 := ⟨n - 1, by omega⟩
    obtain ⟨A, x, B, hA, hx, hXe, hl, hd, hb⟩ := lb_cut X k
    obtain ⟨A', x', B', hA', hx', hYe, hl', hd', hb'⟩ := lb_cut Y k
    rw [hb, hb'] at h
    rw [show ((k + 1 : Nat) : Int) - 1 = (k : Int) by omega, iI_nI, f_Y_compareBig_3, if_neg (nI_pos (by omega))]
    simp only [if_neg (in30 (show k < 30 by omega))]
    simp only [cl30 (show k < 30 by omega)]
    rw [hl, hl']
    by_cases e : x = x'
    · rw [if_pos (by rw [e]), ← iI_nI, show (-1 : Int32) = iI (-1) by decide, iI_add]
      exact ih n (by omega) (by omega) (by rw [hd, hd', h, e])
    · rw [if_neg (fun q => e ((nI_eq (by omega) (by omega)).mp q))]
      by_cases q : x' < x
      · rw [if_pos ((nI_leI (by omega) (by omega)).mpr (by omega)), cS_gt]
        · rfl
        · apply Nat.lt_of_not_le; intro r
          have := Nat.div_le_div_right (c := 2 ^ (28 * k)) r
          omega
      · rw [if_neg (fun r => by have := (nI_leI (by omega) (by omega)).mp r; omega), cS_lt]
        · exact congrArg some (by decide)
        · apply Nat.lt_of_not_le; intro r
          have := Nat.div_le_div_right (c := 2 ^ (28 * k)) r
          omega
theorem cmpB_ok {X Y : Nat} (hX : X < 2 ^ 840) (hY : Y < 2 ^ 840) : f_Y_compareBig (lb X) (lb Y) = some (iI (cS X Y)) := by
  unfold f_Y_compareBig
  exact cb_3 30 1000 (by omega) (by omega) (by rw [Nat.div_eq_of_lt hX, Nat.div_eq_of_lt hY])
theorem ta_4 {Y : Nat} (hY : Y < 2 ^ 840) (R : Nat) : ∀ (n k : Nat) (b : Bool) (Z : Nat), k ≤ 30 → 30 - k < n → Z < 2 ^ 840 → R + (Y / 2 ^ (28 * k) + (if b = true then 1 else 0)) * 2 ^ (28 * k) = Z → f_Y_takeAway_4 n (bI b) (nI k) (lb Z) (lb Y) = some (lb R) := by
  intro n
  induction n with
  | zero => intro k b Z _ h; omega
  | succ n ih =>
    intro k b Z hk hn hZ hR
    rw [f_Y_takeAway_4]
    by_cases e : k = 30
    · subst e
      rw [if_pos (show (30 : Int32) ≤ nI 30 by decide)]
      rw [Nat.div_eq_of_lt hY] at hR
      have : (if b = true then 1 else 0) = 0 := by
        cases b
        · rfl
        · rw [if_pos rfl] at hR
          have : 2 ^ (28 * 30) = 2 ^ 840 := rfl
          omega
      rw [this, Nat.add_zero, Nat.zero_mul, Nat.add_zero] at hR
      rw [hR]
    · have k30 : k < 30 := by omega
      rw [if_neg (fun q => by have := (nI_leI (a := 30) (by decide) (by omega)).mp q; omega)]
      unfold f_Y_takeAway_31
      simp only [if_neg (in30 k30)]
      simp only [cl30 k30]
      obtain ⟨A, z, B, hA, hz, hZe, hl, -, -⟩ := lb_cut Z k
      obtain ⟨A', y, Q, hA', hy, hYe, hl', hd', hb'⟩ := lb_cut Y k
      have hbi : bI b = iI ((if b = true then 1 else 0 : Nat) : Int) := by cases b <;> rfl
      have hb1 : (if b = true then 1 else 0 : Nat) ≤ 1 := by cases b <;> decide
      rw [hl, hl', hbi]
      rw [hd'] at hR
      have pe : 2 ^ (28 * (k + 1)) = 2 ^ 28 * 2 ^ (28 * k) := by rw [← Nat.pow_add]; congr 1; omega
      generalize (if b = true then 1 else 0 : Nat) = c at *
      rw [← iI_nI, ← iI_nI, iI_sub, iI_sub, nI_1]
      have hU : ∀ w, w < 2 ^ 28 → upd (lb Z) k (nI w) = lb (A + 2 ^ (28 * k) * (w + 2 ^ 28 * B)) := fun w hw => by rw [hZe]; exact lb_up hA hz hw
      have hlt : ∀ w, w < 2 ^ 28 → A + 2 ^ (28 * k) * (w + 2 ^ 28 * B) < 2 ^ 840 := by
        intro w hw
        have b1 : B < 2 ^ (28 * (29 - k)) := by
          apply Nat.lt_of_not_le; intro q
          have : 2 ^ (28 * k) * (2 ^ 28 * 2 ^ (28 * (29 - k))) ≤ 2 ^ (28 * k) * (z + 2 ^ 28 * B) := Nat.mul_le_mul_left _ (Nat.le_trans (Nat.mul_le_mul_left _ q) (Nat.le_add_left _ _))
          rw [← Nat.pow_add, ← Nat.pow_add, show 28 * k + (28 + 28 * (29 - k)) = 840 by omega] at this
          omega
        have h1 : w + 2 ^ 28 * B < 2 ^ 28 * 2 ^ (28 * (29 - k)) := by
          have : 2 ^ 28 * (B + 1) ≤ 2 ^ 28 * 2 ^ (28 * (29 - k)) := Nat.mul_le_mul_left _ b1
          omega
        have h2 : 2 ^ (28 * k) * (w + 2 ^ 28 * B + 1) ≤ 2 ^ (28 * k) * (2 ^ 28 * 2 ^ (28 * (29 - k))) := Nat.mul_le_mul_left _ h1
        rw [← Nat.pow_add, ← Nat.pow_add, show 28 * k + (28 + 28 * (29 - k)) = 840 by omega, Nat.mul_add, Nat.mul_one] at h2
        omega
      by_cases h : 0 ≤ (z : Int) - y - c
      · have hge := (iI_ge0 (z := (z : Int) - y - c) (by omega) (by omega)).mpr h
        rw [if_pos hge, if_pos hge]
        obtain ⟨w, hw⟩ : ∃ w : Nat, (z : Int) - y - c = w := ⟨((z : Int) - y - c).toNat, by omega⟩
        rw [hw, iI_nI, hU w (by omega), show (0 : Int32) = bI false from rfl]
        refine ih (k + 1) false _ (by omega) (by omega) (hlt w (by omega)) ?_
        rw [hb', if_neg (by decide), pe]
        rw [hZe] at hR
        have hm : w + y + c = z := by omega
        rw [← hm] at hR
        generalize 2 ^ (28 * k) = p at *
        simp only [Nat.mul_add, Nat.add_mul, Nat.mul_one, Nat.zero_mul] at hR ⊢
        have q1 : 2 ^ 28 * Q * p = Q * (2 ^ 28 * p) := by ac_rfl
        have q2 : y * p = p * y := Nat.mul_comm _ _
        have q3 : c * p = p * c := Nat.mul_comm _ _
        rw [q1, q2, q3] at hR
        omega
      · have hng := fun q => h ((iI_ge0 (z := (z : Int) - y - c) (by omega) (by omega)).mp q)
        rw [if_neg hng, if_neg hng, show (268435455 : Int32) = iI 268435455 from rfl, show (1 : Int32) = iI 1 from rfl, iI_add, iI_add]
        obtain ⟨w, hw⟩ : ∃ w : Nat, (z : Int) - y - c + 268435455 + 1 = w := ⟨((z : Int) - y - c + 268435455 + 1).toNat, by omega⟩
        rw [hw, iI_nI, hU w (by omega), show iI 1 = bI true from rfl]
        refine ih (k + 1) true _ (by omega) (by omega) (hlt w (by omega)) ?_
        rw [hb', if_pos rfl, pe]
        rw [hZe] at hR
        have hm : w + y + c = z + 2 ^ 28 := by omega
        have hm2 := congrArg (fun t => 2 ^ (28 * k) * t) hm
        generalize 2 ^ (28 * k) = p at *
        simp only [Nat.mul_add, Nat.add_mul, Nat.mul_one, Nat.one_mul] at hR hm2 ⊢
        have q1 : 2 ^ 28 * Q * p = Q * (2 ^ 28 * p) := by ac_rfl
        have q2 : y * p = p * y := Nat.mul_comm _ _
        have q3 : c * p = p * c := Nat.mul_comm _ _
        have q4 : p * 2 ^ 28 = 2 ^ 28 * p := Nat.mul_comm _ _
        rw [q1, q2, q3] at hR
        rw [q4] at hm2
        omega
theorem takeA_ok {X Y : Nat} (hX : X < 2 ^ 840) (h : Y ≤ X) : f_Y_takeAway (lb X) (lb Y) = some (lb (X - Y)) := by
  unfold f_Y_takeAway
  refine ta_4 (Nat.lt_of_le_of_lt h hX) (X - Y) 1000 0 false X (by omega) (by omega) hX ?_
  rw [if_neg (by decide), Nat.mul_zero, Nat.pow_zero, Nat.div_one, Nat.mul_one]; omega
