/-! PURE: Y's set, refused, count, whole, compareSizes, compare -/
theorem set_89 {st : ASt} {d : Nat} (hd : d < 8) {ng : Bool} {n : Nat} {e : Int} (hn : n < 2 ^ 63) (he : -2000 ≤ e) : f_Y_set_89 (iI e) (lN n) (bI ng) (nI d) st.2.2.2.2 (yO st) (yN st) (yB st) = some (0, st.2.2.2.2, yO (va_up st.1 d (ng && decide (val n e ≠ 0)), va_up st.2.1 d (val n e), st.2.2), yN (va_up st.1 d (ng && decide (val n e ≠ 0)), va_up st.2.1 d (val n e), st.2.2), yB (va_up st.1 d (ng && decide (val n e ≠ 0)), va_up st.2.1 d (val n e), st.2.2)) := by
  unfold f_Y_set_89
  rw [store_Y hd st.2.2 hn (fun _ => he), Option.bind_some]
theorem set_76 {st : ASt} {d : Nat} (hd : d < 8) {a2 : Int64} {n : Nat} {e : Int} (hn : n = a2.toInt.natAbs) (h53 : n < 2 ^ 53) (he : -2000 ≤ e) : f_Y_set_76 (nI d) a2 (iI e) (lN n) st.2.2.2.2 (yO st) (yN st) (yB st) = some (0, st.2.2.2.2, yO (va_up st.1 d (decide (a2.toInt < 0)), va_up st.2.1 d (val n e), st.2.2), yN (va_up st.1 d (decide (a2.toInt < 0)), va_up st.2.1 d (val n e), st.2.2), yB (va_up st.1 d (decide (a2.toInt < 0)), va_up st.2.1 d (val n e), st.2.2)) := by
  unfold f_Y_set_76
  have l0 : 0 ≤ lg_cmp a2 (0 : Int64) ↔ 0 ≤ a2.toInt := (l_lit (a := a2) (n := 0) (by decide) (by decide)).2.1
  by_cases h : 0 ≤ a2.toInt
  · rw [if_pos (l0.mpr h), decide_eq_false (by omega)]
    exact set_89 (ng := false) hd (by omega) he
  · have := set_89 (st := st) (ng := true) hd (n := n) (e := e) (by omega) he
    rw [decide_eq_true (show val n e ≠ 0 from fun q => by have := val_0.mp q; omega)] at this
    rw [if_neg (fun q => h (l0.mp q)), decide_eq_true (by omega)]
    exact this
theorem Y_set_ok (st : ASt) (a1 : Int32) (a2 : Int64) (a3 : Int32) : f_Y_set st.2.2.2.2 (yO st) (yN st) (yB st) a1 a2 a3 = some ((A_set st a1 a2 a3).1, (A_set st a1 a2 a3).2.2.2.2.2, yO (A_set st a1 a2 a3).2, yN (A_set st a1 a2 a3).2, yB (A_set st a1 a2 a3).2) := by
  unfold f_Y_set A_set
  have l1 : lg_cmp a2 (-9007199254740991 : Int64) < 0 ↔ a2.toInt < -9007199254740991 := by rw [show (-9007199254740991 : Int64) = lI (-9007199254740991) by decide +kernel]; exact (l_lit (a := a2) (n := -9007199254740991) (by decide) (by decide)).2.2.1
  have l2 : 0 < lg_cmp a2 (9007199254740991 : Int64) ↔ 9007199254740991 < a2.toInt := by rw [show (9007199254740991 : Int64) = lI (9007199254740991) by decide +kernel]; exact (l_lit (a := a2) (n := 9007199254740991) (by decide) (by decide)).2.2.2.1
  have l3 : a3 < (-250 : Int32) ↔ a3.toInt < -250 := by rw [show (-250 : Int32) = iI (-250) by decide]; exact (lt_lit (a := a3) (n := -250) (by decide) (by decide)).1
  have l4 : a3 ≤ (250 : Int32) ↔ a3.toInt ≤ 250 := by rw [show (250 : Int32) = iI (250) by decide]; exact (lt_lit (a := a3) (n := 250) (by decide) (by decide)).2.1
  have l0 : 0 ≤ lg_cmp a2 (0 : Int64) ↔ 0 ≤ a2.toInt := (l_lit (a := a2) (n := 0) (by decide) (by decide)).2.1
  have lz : lg_cmp a2 (0 : Int64) = 0 ↔ a2.toInt = 0 := (l_lit (a := a2) (n := 0) (by decide) (by decide)).2.2.2.2
  by_cases h1 : okr a1
  · rw [out_t h1, Option.bind_some, if_pos rfl]
    by_cases c1 : a2.toInt < -9007199254740991
    · rw [if_pos (l1.mpr c1), if_neg (show ¬ set_in a1 a2 a3 from fun q => by have := q.2.1; omega)]
    · rw [if_neg (fun q => c1 (l1.mp q))]
      by_cases c2 : 9007199254740991 < a2.toInt
      · rw [if_pos (l2.mpr c2), if_neg (show ¬ set_in a1 a2 a3 from fun q => by have := q.2.2.1; omega)]
      · rw [if_neg (fun q => c2 (l2.mp q))]
        by_cases c3 : a3.toInt < -250
        · rw [if_pos (l3.mpr c3), if_neg (show ¬ set_in a1 a2 a3 from fun q => by have := q.2.2.2.1; omega)]
        · rw [if_neg (fun q => c3 (l3.mp q))]
          by_cases c4 : a3.toInt ≤ 250
          · rw [if_pos (l4.mpr c4), if_pos (show set_in a1 a2 a3 from ⟨h1, by omega, by omega, by omega, c4⟩)]
            obtain ⟨d, hd, rfl⟩ := okr_nI h1
            rw [ix, cl8 hd]
            obtain ⟨n, hn⟩ : ∃ n, n = a2.toInt.natAbs := ⟨_, rfl⟩
            rw [← hn]
            have S76 := set_76 (st := st) hd (a2 := a2) (e := a3.toInt) hn (by omega) (by omega)
            rw [iI_self] at S76
            have hi : n ≠ 0 → (inr (val n a3.toInt) ↔ (-100 ≤ (bl n : Int) - 1 + a3.toInt ∧ (bl n : Int) - 1 + a3.toInt < 100)) := by
              intro n0
              have hb := val_bl (e := a3.toInt) n0
              have hp := bl_pos n0
              constructor
              · rintro (q | q)
                · exact absurd (val_0.mp q) n0
                · omega
              · intro q; exact Or.inr (by omega)
            have S53 : f_Y_set_53 (nI d) a2 a3 (lN n) st.2.2.2.2 (yO st) (yN st) (yB st) = some ((if inr (val n a3.toInt) then ((0 : Int32), (va_up st.1 d (decide (a2.toInt < 0)), va_up st.2.1 d (val n a3.toInt), st.2.2.1, st.2.2.2.1, st.2.2.2.2)) else (-2, st.1, st.2.1, st.2.2.1, st.2.2.2.1, st.2.2.2.2 + 1)).1, (if inr (val n a3.toInt) then ((0 : Int32), (va_up st.1 d (decide (a2.toInt < 0)), va_up st.2.1 d (val n a3.toInt), st.2.2.1, st.2.2.2.1, st.2.2.2.2)) else (-2, st.1, st.2.1, st.2.2.1, st.2.2.2.1, st.2.2.2.2 + 1)).2.2.2.2.2, yO (if inr (val n a3.toInt) then ((0 : Int32), (va_up st.1 d (decide (a2.toInt < 0)), va_up st.2.1 d (val n a3.toInt), st.2.2.1, st.2.2.2.1, st.2.2.2.2)) else (-2, st.1, st.2.1, st.2.2.1, st.2.2.2.1, st.2.2.2.2 + 1)).2, yN (if inr (val n a3.toInt) then ((0 : Int32), (va_up st.1 d (decide (a2.toInt < 0)), va_up st.2.1 d (val n a3.toInt), st.2.2.1, st.2.2.2.1, st.2.2.2.2)) else (-2, st.1, st.2.1, st.2.2.1, st.2.2.2.1, st.2.2.2.2 + 1)).2, yB (if inr (val n a3.toInt) then ((0 : Int32), (va_up st.1 d (decide (a2.toInt < 0)), va_up st.2.1 d (val n a3.toInt), st.2.2.1, st.2.2.2.1, st.2.2.2.2)) else (-2, st.1, st.2.1, st.2.2.1, st.2.2.2.1, st.2.2.2.2 + 1)).2) := by
              unfold f_Y_set_53
              by_cases z : a2.toInt = 0
              · have n0 : n = 0 := by omega
                rw [if_pos (lz.mpr z), S76, if_pos (show inr (val n a3.toInt) from Or.inl (val_0.mpr n0))]
              · have n0 : n ≠ 0 := by omega
                have I := inR_ok (m := n) (e := a3.toInt) (by omega) (by omega) (by omega)
                rw [iI_self] at I
                rw [if_neg (fun q => z (lz.mp q)), I, Option.bind_some]
                by_cases r : inr (val n a3.toInt)
                · rw [decide_eq_true ((hi n0).mp r), if_neg (show ¬ bI true = 0 by decide), S76, if_pos r]
                · rw [decide_eq_false (fun q => r ((hi n0).mpr q)), if_pos (show bI false = 0 from rfl), if_neg r]
                  rfl
            by_cases s : 0 ≤ a2.toInt
            · have e2 : a2 = lN n := by rw [← lI_self a2, ← lI_lN]; congr 1; omega
              rw [if_pos (l0.mpr s)]
              refine Eq.trans ?_ S53
              congr 1
            · have e2 : -a2 = lN n := by rw [← lI_self a2, ← lI_lN, lI_neg]; congr 1; omega
              rw [if_neg (fun q => s (l0.mp q)), e2, S53]
          · rw [if_neg (fun q => c4 (l4.mp q)), if_neg (show ¬ set_in a1 a2 a3 from fun q => by have := q.2.2.2.2; omega)]
  · rw [out_f h1, Option.bind_some, if_neg (by decide), if_neg (show ¬ set_in a1 a2 a3 from fun q => h1 q.1)]
theorem ref_ok {st : ASt} (hI : Inv st) (a1 a2 a3 a4 : Int32) : f_Y_refused (yO st) a1 a2 a3 a4 = some (bI (!decide (tk st a1 a2 a3 a4))) := by
  unfold f_Y_refused
  by_cases h1 : okr a1
  · rw [out_t h1, Option.bind_some, if_pos rfl]
    by_cases h2 : okr a2
    · rw [out_t h2, Option.bind_some, if_pos rfl]
      by_cases h3 : okr a3
      · rw [out_t h3, Option.bind_some, if_pos rfl]
        by_cases h4 : a4 = 0
        · rw [if_pos h4, decide_eq_true (show tk st a1 a2 a3 a4 from ⟨h1, h2, h3, Or.inl h4⟩)]; rfl
        · rw [if_neg h4]
          obtain ⟨i, hi, rfl⟩ := okr_nI h2
          obtain ⟨j, hj, rfl⟩ := okr_nI h3
          rw [nar_Y hI hi, Option.bind_some, nar_Y hI hj, Option.bind_some]
          by_cases n1 : nrw (st.2.1 i)
          · rw [decide_eq_true n1, if_neg (show ¬ bI true = 0 by decide)]
            by_cases n2 : nrw (st.2.1 j)
            · rw [decide_eq_true n2, if_neg (show ¬ bI true = 0 by decide), decide_eq_true (show tk st a1 (nI i) (nI j) a4 from ⟨h1, h2, h3, Or.inr ⟨by rw [ix, cl8 hi]; exact n1, by rw [ix, cl8 hj]; exact n2⟩⟩)]; rfl
            · rw [decide_eq_false n2, if_pos (show bI false = 0 from rfl), decide_eq_false (fun q => by rcases q.2.2.2 with z | z; exact h4 z; exact n2 (by have := z.2; rw [ix, cl8 hj] at this; exact this))]; rfl
          · rw [decide_eq_false n1, if_pos (show bI false = 0 from rfl), decide_eq_false (fun q => by rcases q.2.2.2 with z | z; exact h4 z; exact n1 (by have := z.1; rw [ix, cl8 hi] at this; exact this))]; rfl
      · rw [out_f h3, Option.bind_some, if_neg (by decide), decide_eq_false (fun q => h3 q.2.2.1)]; rfl
    · rw [out_f h2, Option.bind_some, if_neg (by decide), decide_eq_false (fun q => h2 q.2.1)]; rfl
  · rw [out_f h1, Option.bind_some, if_neg (by decide), decide_eq_false (fun q => h1 q.1)]; rfl
theorem ref_t {st : ASt} (hI : Inv st) {a1 a2 a3 a4 : Int32} (h : tk st a1 a2 a3 a4) : f_Y_refused (yO st) a1 a2 a3 a4 = some 0 := by rw [ref_ok hI, decide_eq_true h]; rfl
theorem ref_f {st : ASt} (hI : Inv st) {a1 a2 a3 a4 : Int32} (h : ¬ tk st a1 a2 a3 a4) : f_Y_refused (yO st) a1 a2 a3 a4 = some 1 := by rw [ref_ok hI, decide_eq_false h]; rfl
theorem cnt_loop {st : ASt} (hI : Inv st) (c1 c2 c3 : Int32) : ∀ (k n : Nat), k ≤ 8 → 8 - k < n → f_Y_count_39 n (nI (cntN st.2.1 k)) (nI k) c1 c2 c3 (yO st) = some (nI (cntN st.2.1 8)) := by
  intro k n
  induction n generalizing k with
  | zero => intro _ h; omega
  | succ n ih =>
    intro hk hn
    rw [f_Y_count_39]
    by_cases h8 : k = 8
    · subst h8; rw [if_pos (by decide)]
    · have hlt : k < 8 := by omega
      rw [if_neg (fun q => by have := (nI_leI (a := 8) (by decide) (by omega)).mp q; omega), nar_Y hI hlt]
      simp only [Option.bind_some]
      have hc : cntN st.2.1 (k + 1) = cntN st.2.1 k + (if nrw (st.2.1 k) then 1 else 0) := rfl
      have := ih (k + 1) (by omega) (by omega)
      rw [hc] at this
      by_cases hw : nrw (st.2.1 k)
      · rw [decide_eq_true hw, if_neg (show ¬ bI true = 0 by decide), nI_1, nI_1]
        rw [if_pos hw] at this; exact this
      · rw [decide_eq_false hw, if_pos (show bI false = 0 from rfl), nI_1]
        rw [if_neg hw] at this; exact this
theorem Y_cnt_ok {st : ASt} (hI : Inv st) (a1 : Int32) : f_Y_count st.2.2.1 st.2.2.2.1 st.2.2.2.2 (yO st) a1 = some (A_cnt st a1) := by
  unfold f_Y_count A_cnt
  have := cnt_loop hI st.2.2.1 st.2.2.2.1 st.2.2.2.2 0 1000 (by decide) (by decide)
  rw [show f_Y_count_39 1000 (0 : Int32) (0 : Int32) st.2.2.1 st.2.2.2.1 st.2.2.2.2 (yO st) = _ from this]
  split
  · rfl
  · split
    · rfl
    · split
      · rfl
      · split <;> rfl
/-- the order of two sizes -/
def cS (x y : Nat) : Int := if x < y then -1 else if x = y then 0 else 1
theorem cS_lt {x y : Nat} (h : x < y) : cS x y = -1 := if_pos h
theorem cS_eq {x y : Nat} (h : x = y) : cS x y = 0 := by unfold cS; rw [if_neg (by omega), if_pos h]
theorem cS_gt {x y : Nat} (h : y < x) : cS x y = 1 := by unfold cS; rw [if_neg (by omega), if_neg (by omega)]
theorem cS_3 (x y : Nat) : cS x y = -1 ∨ cS x y = 0 ∨ cS x y = 1 := by unfold cS; split; exact Or.inl rfl; split; exact Or.inr (Or.inl rfl); exact Or.inr (Or.inr rfl)
theorem cS_mul {x y k : Nat} (hk : 0 < k) : cS (x * k) (y * k) = cS x y := by
  rcases Nat.lt_trichotomy x y with h | h | h
  · rw [cS_lt h, cS_lt (Nat.mul_lt_mul_of_pos_right h hk)]
  · rw [cS_eq h, cS_eq (by rw [h])]
  · rw [cS_gt h, cS_gt (Nat.mul_lt_mul_of_pos_right h hk)]
theorem cz_133 (O : Nat → Int64) (N : Nat → Int32) : ∀ (n k : Nat) (x y : Nat) (e : Int), k < n → x < 2 ^ 62 → y * 2 ^ k < 2 ^ 62 → -10000 < e → e < 10000 → k < 1000 → f_Y_compareSizes_133 n (lN x) (lN y) (iI e) (iI (e + k)) O N = some (iI (cS x (y * 2 ^ k))) := by
  intro n
  induction n with
  | zero => intro k x y e h; omega
  | succ n ih =>
    intro k x y e hk hx hy he1 he2 hk2
    rw [f_Y_compareSizes_133]
    cases k with
    | zero =>
      rw [if_pos ((iI_le (by omega) (by omega) (by omega) (by omega)).mpr (by omega))]
      rw [Nat.pow_zero, Nat.mul_one] at hy ⊢
      rcases Nat.lt_trichotomy x y with h | h | h
      · rw [if_neg (fun q => by have := (cN_ge (by omega) (by omega)).mp q; omega), cS_lt h]; exact congrArg some (by decide)
      · rw [if_pos ((cN_ge (by omega) (by omega)).mpr (by omega)), if_pos ((cN_le (by omega) (by omega)).mpr (by omega)), cS_eq h]; rfl
      · rw [if_pos ((cN_ge (by omega) (by omega)).mpr (by omega)), if_neg (fun q => by have := (cN_le (by omega) (by omega)).mp q; omega), cS_gt h]; rfl
    | succ k =>
      have e1 : y * 2 ^ (k + 1) = y * 2 * 2 ^ k := by rw [Nat.pow_succ, Nat.mul_assoc, Nat.mul_comm 2]
      rw [e1] at hy ⊢
      rw [if_neg (fun q => by have := (iI_le (by omega) (by omega) (by omega) (by omega)).mp q; omega), show (2 : Int64) = lN 2 from rfl, lN_mul, show (-1 : Int32) = iI (-1) by decide, iI_add, show e + ((k + 1 : Nat) : Int) + -1 = e + k by omega]
      exact ih k x (y * 2) e (by omega) hx hy he1 he2 (by omega)
theorem cz_112 (O : Nat → Int64) (N : Nat → Int32) : ∀ (n k : Nat) (x y : Nat) (f : Int), k < n → x * 2 ^ k < 2 ^ 62 → y < 2 ^ 62 → -10000 < f → f < 10000 → k < 1000 → f_Y_compareSizes_112 n (lN x) (lN y) (iI (f + k)) (iI f) O N = some (iI (cS (x * 2 ^ k) y)) := by
  intro n
  induction n with
  | zero => intro k x y e h; omega
  | succ n ih =>
    intro k x y f hk hx hy he1 he2 hk2
    rw [f_Y_compareSizes_112]
    cases k with
    | zero =>
      rw [if_pos ((iI_le (by omega) (by omega) (by omega) (by omega)).mpr (by omega))]
      rw [Nat.pow_zero, Nat.mul_one] at hx ⊢
      have := cz_133 O N 1000 0 x y (f + ((0 : Nat) : Int)) (by decide) hx (by omega) (by omega) (by omega) (by decide)
      rw [Nat.pow_zero, Nat.mul_one] at this
      rw [← this]
      congr 2; omega
    | succ k =>
      have e1 : x * 2 ^ (k + 1) = x * 2 * 2 ^ k := by rw [Nat.pow_succ, Nat.mul_assoc, Nat.mul_comm 2]
      rw [e1] at hx ⊢
      rw [if_neg (fun q => by have := (iI_le (by omega) (by omega) (by omega) (by omega)).mp q; omega), show (2 : Int64) = lN 2 from rfl, lN_mul, show (-1 : Int32) = iI (-1) by decide, iI_add, show f + ((k + 1 : Nat) : Int) + -1 = f + k by omega]
      exact ih k (x * 2) y f (by omega) hx hy he1 he2 (by omega)
theorem cz_112b (O : Nat → Int64) (N : Nat → Int32) {k x y : Nat} {e : Int} (hx : x < 2 ^ 62) (hy : y * 2 ^ k < 2 ^ 62) (h1 : -10000 < e) (h2 : e < 10000) (hk : k < 900) : f_Y_compareSizes_112 1000 (lN x) (lN y) (iI e) (iI (e + k)) O N = some (iI (cS x (y * 2 ^ k))) := by
  rw [f_Y_compareSizes_112, if_pos ((iI_le (by omega) (by omega) (by omega) (by omega)).mpr (by omega))]
  exact cz_133 O N 1000 k x y e (by omega) hx hy h1 h2 (by omega)
theorem cmpS_ok {st : ASt} (hI : Inv st) {i j n : Nat} (hi : i < 8) (hj : j < 8) (hn : n ≤ 60) : f_Y_compareSizes (yO st) (yN st) (nI i) (nI j) (iI n) = some (iI (cS (st.2.1 i) (st.2.1 j * 2 ^ n))) := by
  unfold f_Y_compareSizes
  have fi := od_facts (hI i).1
  have fj := od_facts (hI j).1
  simp only [if_neg (in8 hi), if_neg (in8 hj)]
  simp only [cl8 hi, cl8 hj]
  have z1 : lg_cmp (lN (od (st.2.1 i))) (0 : Int64) = 0 ↔ od (st.2.1 i) = 0 := c0_eq (by omega)
  have z2 : lg_cmp (lN (od (st.2.1 j))) (0 : Int64) = 0 ↔ od (st.2.1 j) = 0 := c0_eq (by omega)
  have w1 : lg_cmp (lN (od (st.2.1 i))) (0 : Int64) ≤ 0 ↔ od (st.2.1 i) = 0 := c0_le (by omega)
  have w2 : lg_cmp (lN (od (st.2.1 j))) (0 : Int64) ≤ 0 ↔ od (st.2.1 j) = 0 := c0_le (by omega)
  by_cases v1 : st.2.1 i = 0
  · have o1 := fi.2.2.2.2.1.mpr v1
    rw [if_pos (z1.mpr o1)]
    unfold f_Y_compareSizes_30
    rw [if_pos (w1.mpr o1)]
    by_cases v2 : st.2.1 j = 0
    · rw [if_pos (w2.mpr (fj.2.2.2.2.1.mpr v2)), cS_eq (by rw [v1, v2, Nat.zero_mul])]; rfl
    · rw [if_neg (fun q => v2 (fj.2.2.2.2.1.mp (w2.mp q))), cS_lt (by rw [v1]; exact Nat.mul_pos (by omega) (Nat.two_pow_pos n))]; exact congrArg some (by decide)
  · have o1 : od (st.2.1 i) ≠ 0 := fun q => v1 (fi.2.2.2.2.1.mp q)
    rw [if_neg (fun q => o1 (z1.mp q))]
    by_cases v2 : st.2.1 j = 0
    · have o2 := fj.2.2.2.2.1.mpr v2
      rw [if_pos (z2.mpr o2)]
      unfold f_Y_compareSizes_30
      rw [if_neg (fun q => o1 (w1.mp q)), cS_gt (by rw [v2, Nat.zero_mul]; omega)]; rfl
    · have o2 : od (st.2.1 j) ≠ 0 := fun q => v2 (fj.2.2.2.2.1.mp q)
      rw [if_neg (fun q => o2 (z2.mp q)), bits_ok (by omega), Option.bind_some, bits_ok (by omega), Option.bind_some]
      obtain ⟨-, gi, -, -⟩ := fi.2.2.2.2.2 v1
      obtain ⟨-, gj, -, -⟩ := fj.2.2.2.2.2 v2
      have bi : bl (od (st.2.1 i)) ≤ 53 := bl_le_iff.mpr fi.1
      have bj : bl (od (st.2.1 j)) ≤ 53 := bl_le_iff.mpr fj.1
      have bi0 := bl_pos o1
      have bj0 := bl_pos o2
      have bjn := bl_mul (st.2.1 j) n v2
      have vi := fi.2.1
      have vj := fj.2.1
      unfold val at vi vj
      rw [iI_add, iI_add, iI_add]
      by_cases h : (bl (od (st.2.1 i)) : Int) + ez (st.2.1 i) = bl (od (st.2.1 j)) + (ez (st.2.1 j) + n)
      · rw [if_pos (congrArg iI h)]
        rcases Int.le_total (ez (st.2.1 j) + n) (ez (st.2.1 i)) with c | c
        · obtain ⟨k, hk⟩ : ∃ k : Nat, ez (st.2.1 i) = ez (st.2.1 j) + n + k := ⟨(ez (st.2.1 i) - (ez (st.2.1 j) + n)).toNat, by omega⟩
          have hb : od (st.2.1 i) * 2 ^ k < 2 ^ 62 := bl_le_iff.mp (by rw [bl_mul _ _ o1]; omega)
          have := cz_112 (yO st) (yN st) 1000 k (od (st.2.1 i)) (od (st.2.1 j)) (ez (st.2.1 j) + n) (by omega) hb (by omega) (by omega) (by omega) (by omega)
          rw [← hk] at this
          rw [this]
          congr 2
          have e1 : st.2.1 i = od (st.2.1 i) * 2 ^ k * 2 ^ (ez (st.2.1 j) + n + 2000).toNat := by
            rw [Nat.mul_assoc, ← Nat.pow_add, show k + (ez (st.2.1 j) + n + 2000).toNat = (ez (st.2.1 i) + 2000).toNat by omega]; exact vi.symm
          have e2 : st.2.1 j * 2 ^ n = od (st.2.1 j) * 2 ^ (ez (st.2.1 j) + n + 2000).toNat := by
            rw [show (ez (st.2.1 j) + n + 2000).toNat = (ez (st.2.1 j) + 2000).toNat + n by omega, Nat.pow_add, ← Nat.mul_assoc, vj]
          have e3 := cS_mul (x := od (st.2.1 i) * 2 ^ k) (y := od (st.2.1 j)) (Nat.two_pow_pos (ez (st.2.1 j) + n + 2000).toNat)
          rw [← e1, ← e2] at e3
          exact e3.symm
        · obtain ⟨k, hk⟩ : ∃ k : Nat, ez (st.2.1 j) + n = ez (st.2.1 i) + k := ⟨(ez (st.2.1 j) + n - ez (st.2.1 i)).toNat, by omega⟩
          have hb : od (st.2.1 j) * 2 ^ k < 2 ^ 62 := bl_le_iff.mp (by rw [bl_mul _ _ o2]; omega)
          have := cz_112b (yO st) (yN st) (k := k) (x := od (st.2.1 i)) (y := od (st.2.1 j)) (e := ez (st.2.1 i)) (by omega) hb (by omega) (by omega) (by omega)
          rw [hk, this]
          congr 2
          have e2 : st.2.1 j * 2 ^ n = od (st.2.1 j) * 2 ^ k * 2 ^ (ez (st.2.1 i) + 2000).toNat := by
            rw [Nat.mul_assoc, ← Nat.pow_add, show k + (ez (st.2.1 i) + 2000).toNat = (ez (st.2.1 j) + 2000).toNat + n by omega, Nat.pow_add, ← Nat.mul_assoc, vj]
          have e3 := cS_mul (x := od (st.2.1 i)) (y := od (st.2.1 j) * 2 ^ k) (Nat.two_pow_pos (ez (st.2.1 i) + 2000).toNat)
          rw [vi, ← e2] at e3
          exact e3.symm
      · rw [if_neg (fun q => h ((iI_eq (by omega) (by omega) (by omega) (by omega)).mp q))]
        by_cases c : (bl (od (st.2.1 j)) : Int) + (ez (st.2.1 j) + n) ≤ bl (od (st.2.1 i)) + ez (st.2.1 i)
        · rw [if_pos ((iI_le (by omega) (by omega) (by omega) (by omega)).mpr c), cS_gt (bl_cmp (by omega))]; rfl
        · rw [if_neg (fun q => c ((iI_le (by omega) (by omega) (by omega) (by omega)).mp q)), cS_lt (bl_cmp (by omega))]; exact congrArg some (by decide)
theorem zc_lt {x y : Int} (h : x < y) : zcmp x y = -1 := if_pos h
theorem zc_eq {x y : Int} (h : x = y) : zcmp x y = 0 := by unfold zcmp; rw [if_neg (by omega), if_pos h]
theorem zc_gt {x y : Int} (h : y < x) : zcmp x y = 1 := by unfold zcmp; rw [if_neg (by omega), if_neg (by omega)]
theorem Y_cmp_ok {st : ASt} (hI : Inv st) (a1 a2 : Int32) : f_Y_compare (yO st) (yN st) (yB st) a1 a2 = some (A_cmp st a1 a2) := by
  unfold f_Y_compare A_cmp
  by_cases h1 : okr a1
  · rw [out_t h1, Option.bind_some, if_pos rfl]
    by_cases h2 : okr a2
    · rw [out_t h2, Option.bind_some, if_pos rfl, if_pos (show okr a1 ∧ okr a2 from ⟨h1, h2⟩)]
      obtain ⟨i, hi, rfl⟩ := okr_nI h1
      obtain ⟨j, hj, rfl⟩ := okr_nI h2
      simp only [if_neg (in8 hi), if_neg (in8 hj)]
      simp only [ix, cl8 hi, cl8 hj]
      have C := cmpS_ok hI hi hj (n := 0) (by decide)
      rw [Nat.pow_zero, Nat.mul_one, show iI ((0 : Nat) : Int) = (0 : Int32) from rfl] at C
      rw [C, Option.bind_some, show yB st i = bI (st.1 i) from rfl, show yB st j = bI (st.1 j) from rfl]
      have ni := (hI i).2
      have nj := (hI j).2
      have zi : zz st i = if st.1 i = true then -((st.2.1 i : Nat) : Int) else ((st.2.1 i : Nat) : Int) := rfl
      have zj : zz st j = if st.1 j = true then -((st.2.1 j : Nat) : Int) else ((st.2.1 j : Nat) : Int) := rfl
      cases si : st.1 i <;> cases sj : st.1 j <;> rw [si] at zi ni <;> rw [sj] at zj nj
      · rw [if_neg (by decide)] at zi zj
        rw [if_pos rfl, if_pos (show bI false = 0 from rfl)]
        rcases Nat.lt_trichotomy (st.2.1 i) (st.2.1 j) with h | h | h
        · rw [cS_lt h, zc_lt (by omega)]; exact congrArg some (by decide)
        · rw [cS_eq h, zc_eq (by omega)]; rfl
        · rw [cS_gt h, zc_gt (by omega)]; rfl
      · have := nj rfl
        rw [if_neg (by decide)] at zi
        rw [if_pos rfl] at zj
        rw [if_neg (by decide), if_pos (show bI false = 0 from rfl), zc_gt (by omega)]
      · have := ni rfl
        rw [if_pos rfl] at zi
        rw [if_neg (by decide)] at zj
        rw [if_neg (by decide), if_neg (show ¬ bI true = 0 by decide), zc_lt (by omega)]
      · rw [if_pos rfl] at zi zj
        rw [if_pos rfl, if_neg (show ¬ bI true = 0 by decide), iI_neg]
        rcases Nat.lt_trichotomy (st.2.1 i) (st.2.1 j) with h | h | h
        · rw [cS_lt h, zc_gt (by omega)]; exact congrArg some (by decide)
        · rw [cS_eq h, zc_eq (by omega)]; rfl
        · rw [cS_gt h, zc_lt (by omega)]; rfl
    · rw [out_f h2, Option.bind_some, if_neg (by decide), if_neg (fun q => h2 q.2)]
  · rw [out_f h1, Option.bind_some, if_neg (by decide), if_neg (fun q => h1 q.1)]
