/-! PURE: Y's cube root -/
theorem cu_27 {x Q sh : Nat} (hx : x < 2 ^ 54) (hs : sh < 5000) (hB : Q * x * 2 ^ sh < 2 ^ 840) : ∀ (n k : Nat), k ≤ 4 → 4 - k < n → f_Y_cube_27 n (lN x) (nI sh) (nI k) (lb (Q % 2 ^ (28 * k) * x * 2 ^ sh)) (lb Q) = some (lb (Q % 2 ^ 112 * x * 2 ^ sh), lb Q) := by
  intro n
  induction n with
  | zero => intro k _ h; omega
  | succ n ih =>
    intro k hk hn
    rw [f_Y_cube_27]
    by_cases e : k = 4
    · subst e
      rw [if_pos (show (4 : Int32) ≤ nI 4 by decide)]
    · have k30 : k < 30 := by omega
      have hl := lm_lt Q k
      rw [if_neg (fun q => by have := (nI_leI (a := 4) (by decide) (by omega)).mp q; omega)]
      simp only [if_neg (in30 k30)]
      simp only [cl30 k30]
      rw [show lb Q k = nI (lm Q k) from rfl, nI_l (by omega), show (134217727 : Int64) = lN (2 ^ 27 - 1) from rfl, wb_mask (by omega) (by decide), show (27 : Int32) = iI 27 from rfl, jshr_i (by omega) (by decide) (by decide), show (27 : Int).toNat = 27 from rfl, lN_mul, lN_mul, show (28 : Int32) = nI 28 from rfl, pk_mul, show iI 27 = nI 27 from rfl, nI_add, nI_add, nI_add, nI_1]
      have hm : Q % 2 ^ (28 * (k + 1)) = Q % 2 ^ (28 * k) + lm Q k * 2 ^ (28 * k) := by
        unfold lm
        rw [show 28 * (k + 1) = 28 * k + 28 from rfl, cut_mod, Nat.mul_comm (2 ^ (28 * k))]
      have hle : Q % 2 ^ (28 * (k + 1)) * x * 2 ^ sh ≤ Q * x * 2 ^ sh := Nat.mul_le_mul_right _ (Nat.mul_le_mul_right _ (Nat.mod_le _ _))
      have hx' := Nat.mod_add_div x (2 ^ 27)
      have x1 : x % 2 ^ 27 < 2 ^ 27 := Nat.mod_lt _ (by decide)
      have x2 : x / 2 ^ 27 < 2 ^ 27 := by omega
      have key : Q % 2 ^ (28 * (k + 1)) * x * 2 ^ sh = Q % 2 ^ (28 * k) * x * 2 ^ sh + lm Q k * (x % 2 ^ 27) * 2 ^ (28 * k + sh) + lm Q k * (x / 2 ^ 27) * 2 ^ (28 * k + 27 + sh) := by
        rw [hm, show (2 : Nat) ^ (28 * k + sh) = 2 ^ (28 * k) * 2 ^ sh from Nat.pow_add _ _ _, show (2 : Nat) ^ (28 * k + 27 + sh) = 2 ^ (28 * k) * 2 ^ 27 * 2 ^ sh by rw [Nat.pow_add, Nat.pow_add], Nat.add_mul, Nat.add_mul, Nat.add_assoc]
        congr 1
        have : lm Q k * 2 ^ (28 * k) * x = lm Q k * 2 ^ (28 * k) * (x % 2 ^ 27 + 2 ^ 27 * (x / 2 ^ 27)) := by rw [hx']
        rw [this]
        generalize x % 2 ^ 27 = xl at *
        generalize x / 2 ^ 27 = xh at *
        generalize 2 ^ (28 * k) = p at *
        generalize 2 ^ sh = r at *
        generalize 2 ^ 27 = t at *
        rw [Nat.mul_add, Nat.add_mul]
        congr 1 <;> ac_rfl
      have m1 : lm Q k * (x % 2 ^ 27) < 2 ^ 62 := Nat.lt_of_le_of_lt (Nat.mul_le_mul (Nat.le_of_lt hl) (Nat.le_of_lt x1)) (by decide)
      have m2 : lm Q k * (x / 2 ^ 27) < 2 ^ 62 := Nat.lt_of_le_of_lt (Nat.mul_le_mul (Nat.le_of_lt hl) (Nat.le_of_lt x2)) (by decide)
      have hs1 : Q % 2 ^ (28 * (k + 1)) * x * 2 ^ sh < 2 ^ 840 := Nat.lt_of_le_of_lt hle hB
      have I := ih (k + 1) (by omega) (by omega)
      rw [key] at hs1 I
      clear key hle hB hm hx'
      generalize lm Q k * (x % 2 ^ 27) = c1 at *
      generalize lm Q k * (x / 2 ^ 27) = c2 at *
      generalize Q % 2 ^ (28 * k) * x * 2 ^ sh = X at *
      rw [addSh_ok m1 (by omega) (Nat.lt_of_le_of_lt (Nat.le_add_right _ _) hs1), Option.bind_some, addSh_ok m2 (by omega) hs1, Option.bind_some]
      exact I
theorem cube_Y {x sh X Y : Nat} (hx : x ≤ 2 ^ 53) (hs : sh < 600) (hX : X < 2 ^ 840) (hY : Y < 2 ^ 840) : f_Y_cube (lb X) (lb Y) (lN x) (nI sh) = some (lb (x * x * x * 2 ^ sh), lb (x * x)) ∧ x * x * x * 2 ^ sh < 2 ^ 840 ∧ x * x < 2 ^ 840 := by
  have h2 : x * x ≤ 2 ^ 106 := Nat.le_trans (Nat.mul_le_mul hx hx) (Nat.le_of_eq (by rw [← Nat.pow_add]))
  have h3 : x * x * x ≤ 2 ^ 159 := Nat.le_trans (Nat.mul_le_mul h2 hx) (Nat.le_of_eq (by rw [← Nat.pow_add]))
  have h4 : x * x * x * 2 ^ sh < 2 ^ 840 := by
    refine Nat.lt_of_le_of_lt (Nat.mul_le_mul_right _ h3) ?_
    rw [← Nat.pow_add]; exact wb_lt2 (by omega)
  have h5 : x * x < 2 ^ 840 := Nat.lt_of_le_of_lt h2 (wb_lt2 (by omega))
  refine ⟨?_, h4, h5⟩
  unfold f_Y_cube
  have A := addPr_ok (a := x) (b := x) (s := 0) (X := 0) (by omega) (by omega) (by decide) (by rw [Nat.pow_zero, Nat.mul_one, Nat.zero_add]; exact h5)
  rw [Nat.pow_zero, Nat.mul_one, Nat.zero_add, show nI 0 = (0 : Int32) from rfl] at A
  rw [clear_ok hY, Option.bind_some, A, Option.bind_some, clear_ok hX, Option.bind_some]
  have C := cu_27 (x := x) (Q := x * x) (sh := sh) (by omega) (by omega) h4 1000 0 (by omega) (by omega)
  rw [Nat.mul_zero, Nat.pow_zero, Nat.mod_one, Nat.zero_mul, Nat.zero_mul, Nat.mod_eq_of_lt (Nat.lt_of_le_of_lt h2 (wb_lt2 (by omega)))] at C
  exact C
theorem ca_28 {st : ASt} {i x l X Y : Nat} {e y : Int} (hi : i < 8) (hv : vok (st.2.1 i)) (hx : x ≤ 2 ^ 53) (hX : X < 2 ^ 840) (hY : Y < 2 ^ 840) (he : -456 ≤ e ∧ e ≤ 141) (hy : y ≤ e ∧ y ≤ ez (st.2.1 i) ∧ -456 ≤ y) (hl : (l : Int) = y + 2000) : ∃ (X' Y' : Nat), X' < 2 ^ 840 ∧ Y' < 2 ^ 840 ∧ f_Y_cubeAgainst_28 (lN x) (nI i) (iI e) (iI (ez (st.2.1 i))) (iI y) (yO st) (yN st) (lb X) (lb Y) = some (iI (cS (x * x * x * 2 ^ (e + 2000).toNat) (st.2.1 i)), lb X', lb Y') := by
  have fv := od_facts hv
  unfold f_Y_cubeAgainst_28
  rw [iI_sub, iI_sub]
  obtain ⟨s, hs⟩ : ∃ s : Nat, e - y = s := ⟨(e - y).toNat, by omega⟩
  obtain ⟨u, hu⟩ : ∃ u : Nat, ez (st.2.1 i) - y = u := ⟨(ez (st.2.1 i) - y).toNat, by omega⟩
  obtain ⟨C, b1, b2⟩ := cube_Y (x := x) (sh := s) hx (by omega) hX hY
  have b3 : od (st.2.1 i) * 2 ^ u < 2 ^ 840 := by
    refine Nat.lt_of_lt_of_le (Nat.mul_lt_mul_of_pos_right fv.1 (Nat.two_pow_pos u)) ?_
    rw [← Nat.pow_add]; exact pow_mono (by omega)
  rw [hs, hu, iI_nI, iI_nI, C, Option.bind_some, clear_ok b2, Option.bind_some, if_neg (in8 hi), cl8 hi, show yO st i = lN (od (st.2.1 i)) from rfl, addSh_ok (by omega) (by omega) (by rw [Nat.zero_add]; exact b3), Option.bind_some, Nat.zero_add, cmpB_ok b1 b3, Option.bind_some]
  have e1 : x * x * x * 2 ^ (e + 2000).toNat = x * x * x * 2 ^ s * 2 ^ l := by
    rw [Nat.mul_assoc (x * x * x) (2 ^ s) (2 ^ l), ← Nat.pow_add, show (e + 2000).toNat = s + l by omega]
  have e2 : st.2.1 i = od (st.2.1 i) * 2 ^ u * 2 ^ l := by
    have a := fv.2.1
    unfold val at a
    rw [Nat.mul_assoc, ← Nat.pow_add, show u + l = (ez (st.2.1 i) + 2000).toNat by omega, a]
  refine ⟨x * x * x * 2 ^ s, od (st.2.1 i) * 2 ^ u, b1, b3, ?_⟩
  have e3 : cS (x * x * x * 2 ^ s * 2 ^ l) (st.2.1 i) = cS (x * x * x * 2 ^ s) (od (st.2.1 i) * 2 ^ u) := by
    generalize od (st.2.1 i) * 2 ^ u = w at *
    rw [e2]; exact cS_mul (Nat.two_pow_pos l)
  rw [e1, e3]
theorem ca_Y {st : ASt} {i x X Y : Nat} {p : Int} (hi : i < 8) (hv : vok (st.2.1 i)) (hx : x ≤ 2 ^ 53) (hX : X < 2 ^ 840) (hY : Y < 2 ^ 840) (hp : -152 ≤ p ∧ p ≤ 47) : ∃ (X' Y' : Nat), X' < 2 ^ 840 ∧ Y' < 2 ^ 840 ∧ f_Y_cubeAgainst (yO st) (yN st) (lb X) (lb Y) (lN x) (iI p) (nI i) = some (iI (cS (cubev x p) (st.2.1 i)), lb X', lb Y') := by
  have fv := od_facts hv
  unfold f_Y_cubeAgainst cubev
  rw [if_neg (in8 hi), cl8 hi, show yN st i = iI (ez (st.2.1 i)) from rfl, show (3 : Int32) = iI 3 from rfl, iI_mul]
  by_cases c : ez (st.2.1 i) ≤ 3 * p
  · rw [if_pos ((iI_le (by omega) (by omega) (by omega) (by omega)).mpr c)]
    exact ca_28 (l := (ez (st.2.1 i) + 2000).toNat) hi hv hx hX hY (by omega) (by omega) (by omega)
  · rw [if_neg (fun q => c ((iI_le (by omega) (by omega) (by omega) (by omega)).mp q))]
    exact ca_28 (l := (3 * p + 2000).toNat) hi hv hx hX hY (by omega) (by omega) (by omega)
theorem cr_87 {st : ASt} {i : Nat} (G K : Nat → Int32) : ∀ (t n m : Nat) (e : Int), m ≠ 0 → bl m + t = 53 → -10000 + (t : Int) < e → e < 10000 → f_Y_cubeRoot_87 (n + t) (nI i) (lN m) (iI e) (yO st) (yN st) (yB st) G K = f_Y_cubeRoot_87 n (nI i) (lN (m * 2 ^ t)) (iI (e - t)) (yO st) (yN st) (yB st) G K := by
  intro t
  induction t with
  | zero =>
    intro n m e m0 hb _ _
    rw [Nat.pow_zero, Nat.mul_one, Nat.add_zero, show e - ((0 : Nat) : Int) = e by omega]
  | succ t ih =>
    intro n m e m0 hb h1 h2
    have hm : m < 2 ^ 53 := bl_le_iff.mp (by omega)
    have hb2 := bl_mul m 1 m0
    rw [Nat.pow_one] at hb2
    have := ih n (m * 2) (e - 1) (by omega) (by omega) (by omega) (by omega)
    rw [show n + (t + 1) = (n + t) + 1 from rfl, f_Y_cubeRoot_87, bits_ok (by omega), Option.bind_some, show (53 : Int32) = iI 53 from rfl, if_neg (fun q => by have := (iI_le (by omega) (by omega) (by omega) (by omega)).mp q; omega), show (-1 : Int32) = iI (-1) by decide, iI_add, show e + -1 = e - 1 by omega, show (2 : Int64) = lN 2 from rfl, lN_mul, this, show m * 2 * 2 ^ t = m * 2 ^ (t + 1) by rw [Nat.pow_succ, Nat.mul_assoc, Nat.mul_comm 2], show e - 1 - (t : Int) = e - ((t + 1 : Nat) : Int) by omega]
theorem Y_cube_ok {st : ASt} (hI : Inv st) {X Y : Nat} (hX : X < 2 ^ 840) (hY : Y < 2 ^ 840) (a1 a2 : Int32) : ∃ (X' Y' : Nat), X' < 2 ^ 840 ∧ Y' < 2 ^ 840 ∧ f_Y_cubeRoot (yO st) (yN st) (yB st) (lb X) (lb Y) a1 a2 = some (A_cube st a1 a2, lb X', lb Y') := by
  unfold f_Y_cubeRoot A_cube
  by_cases h1 : okr a1
  · rw [out_t h1, Option.bind_some, if_pos rfl]
    by_cases h2 : okr a2
    · rw [out_t h2, Option.bind_some, if_pos rfl, if_pos (show okr a1 ∧ okr a2 from ⟨h1, h2⟩)]
      obtain ⟨i, hi, rfl⟩ := okr_nI h1
      obtain ⟨j, hj, rfl⟩ := okr_nI h2
      have fi := od_facts (hI i).1
      have fj := od_facts (hI j).1
      simp only [if_neg (in8 hi), if_neg (in8 hj)]
      simp only [ix, cl8 hi, cl8 hj]
      rw [show yO st i = lN (od (st.2.1 i)) from rfl, show yO st j = lN (od (st.2.1 j)) from rfl, show yN st j = iI (ez (st.2.1 j)) from rfl, show yB st i = bI (st.1 i) from rfl, show yB st j = bI (st.1 j) from rfl]
      unfold sgn
      by_cases w0 : st.2.1 j = 0
      · rw [if_pos ((c0_eq (by omega)).mpr (fj.2.2.2.2.1.mpr w0)), if_pos w0, if_pos w0]
        by_cases v0 : st.2.1 i = 0
        · rw [if_pos ((c0_eq (by omega)).mpr (fi.2.2.2.2.1.mpr v0)), if_pos v0, if_pos rfl]
          exact ⟨X, Y, hX, hY, rfl⟩
        · rw [if_neg (fun q => v0 (fi.2.2.2.2.1.mp ((c0_eq (by omega)).mp q))), if_neg v0, if_neg (by cases st.1 i <;> decide)]
          exact ⟨X, Y, hX, hY, rfl⟩
      · rw [if_neg (fun q => w0 (fj.2.2.2.2.1.mp ((c0_eq (by omega)).mp q))), if_neg w0, if_neg w0]
        by_cases v0 : st.2.1 i = 0
        · rw [if_pos ((c0_eq (by omega)).mpr (fi.2.2.2.2.1.mpr v0)), if_pos v0, if_neg (by cases st.1 j <;> decide)]
          exact ⟨X, Y, hX, hY, rfl⟩
        · rw [if_neg (fun q => v0 (fi.2.2.2.2.1.mp ((c0_eq (by omega)).mp q))), if_neg v0]
          by_cases e : st.1 i = st.1 j
          · rw [if_pos ((bI_inj _ _).mpr e), e, if_pos rfl]
            have o0 : od (st.2.1 j) ≠ 0 := fun z => w0 (fj.2.2.2.2.1.mp z)
            obtain ⟨-, gj, wj, tj⟩ := fj.2.2.2.2.2 w0
            have bj : bl (od (st.2.1 j)) ≤ 53 := bl_le_iff.mpr fj.1
            have bj0 := bl_pos o0
            have rj := reg_facts (hI j).1
            have m52 := rj.2.2.2.2.2 w0
            obtain ⟨t, ht⟩ : ∃ t, bl (od (st.2.1 j)) + t = 53 := ⟨53 - bl (od (st.2.1 j)), by omega⟩
            have L := cr_87 (st := st) (i := i) (lb X) (lb Y) t (999 - t + 1) _ (ez (st.2.1 j)) o0 ht (by omega) (by omega)
            rw [show 999 - t + 1 + t = 1000 by omega] at L
            have em : od (st.2.1 j) * 2 ^ t = mt (st.2.1 j) := by
              unfold mt
              rw [show bl (st.2.1 j) - 53 = tz (st.2.1 j) - t by omega]
              generalize od (st.2.1 j) = o at *
              generalize tz (st.2.1 j) = z at *
              rw [wj, mul_pow_div _ (by omega), show z - (z - t) = t by omega]
            have ep : ez (st.2.1 j) - t = pz (st.2.1 j) := by
              unfold pz; rw [if_neg w0]; omega
            rw [em, ep] at L
            have hbm : bl (mt (st.2.1 j)) = 53 := bl_eq (k := 52) m52 rj.1
            rw [L, f_Y_cubeRoot_87, bits_ok (by omega), Option.bind_some, hbm, if_pos (by decide), show (1 : Int64) = lN 1 from rfl, lNsub (by omega), lN_add]
            obtain ⟨X1, Y1, hX1, hY1, E1⟩ := ca_Y (st := st) (p := pz (st.2.1 j)) (x := mt (st.2.1 j) - 1) hi (hI i).1 (by omega) hX hY ⟨rj.2.2.1, rj.2.2.2.1⟩
            obtain ⟨X2, Y2, hX2, hY2, E2⟩ := ca_Y (st := st) (p := pz (st.2.1 j)) (x := mt (st.2.1 j) + 1) hi (hI i).1 (by omega) hX1 hY1 ⟨rj.2.2.1, rj.2.2.2.1⟩
            rw [E1, Option.bind_some]
            simp only []
            have c1 := cS_3 (cubev (mt (st.2.1 j) - 1) (pz (st.2.1 j))) (st.2.1 i)
            have c2 := cS_3 (cubev (mt (st.2.1 j) + 1) (pz (st.2.1 j))) (st.2.1 i)
            by_cases l1 : cubev (mt (st.2.1 j) - 1) (pz (st.2.1 j)) < st.2.1 i
            · rw [if_neg (fun q => by have := (iI_ge0 (by omega) (by omega)).mp q; rw [cS_lt l1] at this; exact absurd this (by decide)), E2, Option.bind_some]
              simp only []
              by_cases l2 : st.2.1 i < cubev (mt (st.2.1 j) + 1) (pz (st.2.1 j))
              · rw [if_neg (fun q => by have := (iI_le0 (by omega) (by omega)).mp q; rw [cS_gt l2] at this; exact absurd this (by decide)), if_pos ⟨l1, l2⟩]
                exact ⟨X2, Y2, hX2, hY2, rfl⟩
              · have : cS (cubev (mt (st.2.1 j) + 1) (pz (st.2.1 j))) (st.2.1 i) ≤ 0 := by
                  rcases Nat.lt_or_eq_of_le (Nat.le_of_not_lt l2) with q | q
                  · rw [cS_lt q]; decide
                  · rw [cS_eq q]; decide
                rw [if_pos ((iI_le0 (by omega) (by omega)).mpr this), if_neg (fun q => l2 q.2)]
                exact ⟨X2, Y2, hX2, hY2, rfl⟩
            · have : 0 ≤ cS (cubev (mt (st.2.1 j) - 1) (pz (st.2.1 j))) (st.2.1 i) := by
                rcases Nat.lt_or_eq_of_le (Nat.le_of_not_lt l1) with q | q
                · rw [cS_gt q]; decide
                · rw [cS_eq q.symm]; decide
              rw [if_pos ((iI_ge0 (by omega) (by omega)).mpr this), if_neg (fun q => l1 q.1)]
              exact ⟨X1, Y1, hX1, hY1, rfl⟩
          · rw [if_neg (fun q => e ((bI_inj _ _).mp q)), if_neg (by revert e; cases st.1 i <;> cases st.1 j <;> decide)]
            exact ⟨X, Y, hX, hY, rfl⟩
    · rw [out_f h2, Option.bind_some, if_neg (by decide), if_neg (fun q => h2 q.2)]
      exact ⟨X, Y, hX, hY, rfl⟩
  · rw [out_f h1, Option.bind_some, if_neg (by decide), if_neg (fun q => h1 q.1)]
    exact ⟨X, Y, hX, hY, rfl⟩
