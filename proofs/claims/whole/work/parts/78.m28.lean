/-! PURE: Y's step -/
theorem tw_Y {st : ASt} {d : Nat} (hd : d < 8) {ng : Bool} {m : Nat} {e : Int} (hm : m < 2 ^ 63) (he1 : -2000 ≤ e) (he2 : e < 90000) : f_Y_toward st.2.2.1 st.2.2.2.1 st.2.2.2.2 (yO st) (yN st) (yB st) (nI d) (bI ng) (lN m) (iI e) = some (YR (if -100 ≤ (bl m : Int) - 1 + e ∧ (bl m : Int) - 1 + e < 100 then gop st d ng (val m e) 0 else gop st d false 0 0)) := by
  unfold f_Y_toward
  rw [inR_ok hm (by omega) (by omega), Option.bind_some]
  have F := fin_Y (st := st) hd (ng := ng) (c := 0) hm he1 he2 (Or.inr (Or.inl rfl))
  have F0 := fin_Y (st := st) hd (ng := false) (m := 0) (e := 0) (c := 0) (by decide) (by decide) (by decide) (Or.inr (Or.inl rfl))
  rw [show iI 0 = (0 : Int32) from rfl] at F F0
  rw [show lN 0 = (0 : Int64) from rfl, show bI false = (0 : Int32) from rfl, show val 0 0 = 0 from Nat.zero_mul _] at F0
  by_cases h : -100 ≤ (bl m : Int) - 1 + e ∧ (bl m : Int) - 1 + e < 100
  · rw [decide_eq_true h, if_neg (show ¬ bI true = 0 by decide), F, Option.bind_some, if_pos h]
  · rw [decide_eq_false h, if_pos (show bI false = 0 from rfl), F0, Option.bind_some, if_neg h]
theorem gop_0 {st : ASt} {d : Nat} (ng : Bool) : gop st d false 0 0 = gop st d ng 0 0 := by
  unfold gop; cases ng <;> rfl
theorem sy_end {st : ASt} {d i P : Nat} (hd : d < 8) (hi : i < 8) (hv : vok (st.2.1 i)) (v0 : st.2.1 i ≠ 0) (hP : P = 53 ∨ P = 24) {m : Nat} {e : Int} (away cut : Bool) (hm : m = st.2.1 i / 2 ^ (bl (st.2.1 i) - P)) (he : e = (bl (st.2.1 i) : Int) - P - 2000) (hc : cut = decide (st.2.1 i % 2 ^ (bl (st.2.1 i) - P) ≠ 0)) (n : Nat) : f_Y_step_109 (n + 1) (nI d) (nI i) (iI P) (lN m) (iI e) (bI away) (bI cut) st.2.2.1 st.2.2.2.1 st.2.2.2.2 (yO st) (yN st) (yB st) = some (YR (gop st d (st.1 i) (stp (st.2.1 i) P away) 0)) := by
  have hr : 1901 ≤ bl (st.2.1 i) ∧ bl (st.2.1 i) ≤ 2100 := by
    rcases hv with q | ⟨q1, q2, -⟩
    · exact absurd q v0
    · exact ⟨q1, q2⟩
  have hbm : bl m = P := by rw [hm, bl_div]; omega
  have hlt : m < 2 ^ P := bl_le_iff.mp (by omega)
  have hge : 2 ^ (P - 1) ≤ m := bl_lt_iff.mp (by omega)
  have h53 : m < 2 ^ 53 := by rcases hP with rfl | rfl <;> omega
  have m1 : 1 ≤ m := Nat.le_trans (Nat.one_le_two_pow) hge
  have hPi : 24 ≤ P ∧ P ≤ 53 := by omega
  rw [f_Y_step_109]
  simp only [if_neg (in8 hi)]
  simp only [cl8 hi]
  rw [bits_ok (by omega), Option.bind_some, hbm, if_pos (Int32.le_refl _), show yB st i = bI (st.1 i) from rfl]
  unfold stp
  rw [if_neg v0, ← hm]
  have sv : ∀ k, val k e = k * 2 ^ (bl (st.2.1 i) - P) := fun k => st_val (P := P) (v := st.2.1 i) (by omega)
  cases away
  · rw [if_pos (show bI false = 0 from rfl), if_neg (show ¬ false = true by decide)]
    cases cut
    · have hz : ¬ st.2.1 i % 2 ^ (bl (st.2.1 i) - P) ≠ 0 := of_decide_eq_false hc.symm
      rw [if_pos (show bI false = 0 from rfl), if_neg hz, show (1 : Int32) = iI 1 from rfl, iI_sub, show (1 : Int64) = lN 1 from rfl, jshl_i 1 (by omega) (by omega), Nat.one_mul, show ((P : Int) - 1).toNat = P - 1 by omega, show (2 : Int64) = lN 2 from rfl, lN_mul, lNsub (by omega), lNsub (by omega), iI_sub]
      have p1 : 2 ^ (P - 1) < 2 ^ 63 := wb_lt2 (by omega)
      by_cases h : m = 2 ^ (P - 1)
      · rw [if_pos ((cN_eq (by omega) p1).mpr h), if_pos h, tw_Y hd (by omega) (by omega) (by omega), Option.bind_some]
        have hb2 : bl (2 * m - 1) = P := by
          have e1 : P = (P - 1) + 1 := by omega
          rw [e1]
          refine bl_eq (by omega) ?_
          rw [Nat.pow_succ, ← h]; omega
        rw [hb2]
        by_cases t : bl (st.2.1 i) = 1901
        · rw [if_neg (by omega), if_pos t, gop_0 (st.1 i)]
        · rw [if_pos (by omega), if_neg t, show val (2 * m - 1) (e - 1) = (2 * m - 1) * 2 ^ (bl (st.2.1 i) - P - 1) by unfold val; rw [show (e - 1 + 2000).toNat = bl (st.2.1 i) - P - 1 by omega]]
      · rw [if_neg (fun q => h ((cN_eq (by omega) p1).mp q)), if_neg h, tw_Y hd (by omega) (by omega) (by omega), Option.bind_some]
        have hb2 : bl (m - 1) = P := by
          have e1 : P = (P - 1) + 1 := by omega
          rw [e1]
          refine bl_eq (by omega) ?_
          rw [← e1]; omega
        rw [hb2, if_pos (by omega), sv]
    · have hz : st.2.1 i % 2 ^ (bl (st.2.1 i) - P) ≠ 0 := of_decide_eq_true hc.symm
      have F := fin_Y (st := st) hd (ng := st.1 i) (m := m) (e := e) (c := 0) (by omega) (by omega) (by omega) (Or.inr (Or.inl rfl))
      rw [show iI 0 = (0 : Int32) from rfl] at F
      rw [if_neg (show ¬ bI true = 0 by decide), if_pos hz, F, Option.bind_some, sv]
  · have F := fin_Y (st := st) hd (ng := st.1 i) (m := m + 1) (e := e) (c := 0) (by omega) (by omega) (by omega) (Or.inr (Or.inl rfl))
    rw [show iI 0 = (0 : Int32) from rfl] at F
    rw [if_neg (show ¬ bI true = 0 by decide), if_pos rfl, show (1 : Int64) = lN 1 from rfl, lNadd, F, Option.bind_some, sv]
theorem c1_eq {a : Nat} (ha : a < 2 ^ 63) : lg_cmp (lN a) (1 : Int64) = 0 ↔ a = 1 := cN_eq (b := 1) ha (by decide)
theorem sy_109 {st : ASt} {d i P : Nat} (away : Bool) (hP : 1 ≤ P) : ∀ (t n m : Nat) (e : Int) (cut : Bool), bl m = P + t → m < 2 ^ 60 → -10000 < e → e + t < 10000 → t < 100 → f_Y_step_109 (n + t) (nI d) (nI i) (iI P) (lN m) (iI e) (bI away) (bI cut) st.2.2.1 st.2.2.2.1 st.2.2.2.2 (yO st) (yN st) (yB st) = f_Y_step_109 n (nI d) (nI i) (iI P) (lN (m / 2 ^ t)) (iI (e + t)) (bI away) (bI (cut || decide (m % 2 ^ t ≠ 0))) st.2.2.1 st.2.2.2.1 st.2.2.2.2 (yO st) (yN st) (yB st) := by
  intro t
  induction t with
  | zero =>
    intro n m e cut _ _ _ _ _
    rw [Nat.pow_zero, Nat.div_one, Nat.mod_one, Nat.add_zero, show e + ((0 : Nat) : Int) = e by omega, decide_eq_false (by decide), Bool.or_false]
  | succ t ih =>
    intro n m e cut hb hm h1 h2 ht
    have hbm : bl m ≤ 60 := bl_le_iff.mpr hm
    rw [show n + (t + 1) = (n + t) + 1 from rfl, f_Y_step_109, bits_ok (by omega), Option.bind_some, if_neg (fun q => by have := (iI_le (by omega) (by omega) (by omega) (by omega)).mp q; omega), par (by omega), half (by omega), show (1 : Int32) = iI 1 from rfl, iI_add]
    have hb2 : bl (m / 2) = P + t := by
      have := bl_div m 1
      rw [Nat.pow_one] at this; omega
    have e1 : m / 2 / 2 ^ t = m / 2 ^ (t + 1) := by rw [Nat.div_div_eq_div_mul, Nat.pow_succ, Nat.mul_comm]
    have e2 : m % 2 ^ (t + 1) = m % 2 + 2 * (m / 2 % 2 ^ t) := by rw [Nat.pow_succ, Nat.mul_comm, Nat.mod_mul]
    have e3 : e + 1 + (t : Int) = e + ((t + 1 : Nat) : Int) := by omega
    by_cases h : m % 2 = 1
    · rw [if_pos ((c1_eq (by omega)).mpr h)]
      have := ih n (m / 2) (e + 1) true hb2 (by omega) (by omega) (by omega) (by omega)
      rw [show iI 1 = bI true from rfl, this, e1, e3, Bool.true_or, decide_eq_true (by omega), Bool.or_true]
    · rw [if_neg (fun q => h ((c1_eq (by omega)).mp q))]
      have := ih n (m / 2) (e + 1) cut hb2 (by omega) (by omega) (by omega) (by omega)
      rw [this, e1, e3]
      have e4 : decide (m / 2 % 2 ^ t ≠ 0) = decide (m % 2 ^ (t + 1) ≠ 0) := by
        rw [decide_eq_decide]; omega
      rw [e4]
theorem sy_85 {st : ASt} {d i P : Nat} (away : Bool) (hP : P ≤ 53) : ∀ (t n m : Nat) (e : Int), m ≠ 0 → bl m + t = P → -10000 + (t : Int) < e → e < 10000 → t < 100 → f_Y_step_85 (n + 1 + t) (nI d) (nI i) (iI P) (lN m) (iI e) (bI away) 0 st.2.2.1 st.2.2.2.1 st.2.2.2.2 (yO st) (yN st) (yB st) = f_Y_step_109 1000 (nI d) (nI i) (iI P) (lN (m * 2 ^ t)) (iI (e - t)) (bI away) 0 st.2.2.1 st.2.2.2.1 st.2.2.2.2 (yO st) (yN st) (yB st) := by
  intro t
  induction t with
  | zero =>
    intro n m e m0 hb _ _ _
    have hm : m < 2 ^ 53 := bl_le_iff.mp (by omega)
    rw [Nat.pow_zero, Nat.mul_one, Nat.add_zero, show e - ((0 : Nat) : Int) = e by omega, f_Y_step_85, bits_ok (by omega), Option.bind_some, if_pos ((iI_le (by omega) (by omega) (by omega) (by omega)).mpr (by omega))]
  | succ t ih =>
    intro n m e m0 hb h1 h2 ht
    have hm : m < 2 ^ 53 := bl_le_iff.mp (by omega)
    have hb2 := bl_mul m 1 m0
    rw [Nat.pow_one] at hb2
    have := ih n (m * 2) (e - 1) (by omega) (by omega) (by omega) (by omega) (by omega)
    rw [show n + 1 + (t + 1) = (n + 1 + t) + 1 from rfl, f_Y_step_85, bits_ok (by omega), Option.bind_some, if_neg (fun q => by have := (iI_le (by omega) (by omega) (by omega) (by omega)).mp q; omega), show (-1 : Int32) = iI (-1) by decide, iI_add, show e + -1 = e - 1 by omega, show (2 : Int64) = lN 2 from rfl, lN_mul, this, show m * 2 * 2 ^ t = m * 2 ^ (t + 1) by rw [Nat.pow_succ, Nat.mul_assoc, Nat.mul_comm 2], show e - 1 - (t : Int) = e - ((t + 1 : Nat) : Int) by omega]
theorem sy_go {st : ASt} (hI : Inv st) {d i P : Nat} (hd : d < 8) (hi : i < 8) (v0 : st.2.1 i ≠ 0) (hP : P = 53 ∨ P = 24) (away : Bool) : f_Y_step_85 1000 (nI d) (nI i) (iI P) (lN (od (st.2.1 i))) (iI (ez (st.2.1 i))) (bI away) 0 st.2.2.1 st.2.2.2.1 st.2.2.2.2 (yO st) (yN st) (yB st) = some (YR (gop st d (st.1 i) (stp (st.2.1 i) P away) 0)) := by
  have hv := (hI i).1
  have hf := od_facts hv
  have o0 : od (st.2.1 i) ≠ 0 := fun q => v0 (hf.2.2.2.2.1.mp q)
  obtain ⟨-, gi, wi, ti⟩ := hf.2.2.2.2.2 v0
  have hb : bl (od (st.2.1 i)) ≤ 53 := bl_le_iff.mpr hf.1
  have hb0 := bl_pos o0
  have hPi : 24 ≤ P ∧ P ≤ 53 := by omega
  have key : ∃ (m : Nat) (e : Int) (cut : Bool) (n : Nat), f_Y_step_85 1000 (nI d) (nI i) (iI P) (lN (od (st.2.1 i))) (iI (ez (st.2.1 i))) (bI away) 0 st.2.2.1 st.2.2.2.1 st.2.2.2.2 (yO st) (yN st) (yB st) = f_Y_step_109 (n + 1) (nI d) (nI i) (iI P) (lN m) (iI e) (bI away) (bI cut) st.2.2.1 st.2.2.2.1 st.2.2.2.2 (yO st) (yN st) (yB st) ∧ m = st.2.1 i / 2 ^ (bl (st.2.1 i) - P) ∧ e = (bl (st.2.1 i) : Int) - P - 2000 ∧ cut = decide (st.2.1 i % 2 ^ (bl (st.2.1 i) - P) ≠ 0) := by
    by_cases h : bl (od (st.2.1 i)) ≤ P
    · obtain ⟨t, ht⟩ : ∃ t : Nat, bl (od (st.2.1 i)) + t = P := ⟨P - bl (od (st.2.1 i)), by omega⟩
      have L := sy_85 (st := st) (d := d) (i := i) away hPi.2 t (999 - t) _ (ez (st.2.1 i)) o0 ht (by omega) (by omega) (by omega)
      rw [show 999 - t + 1 + t = 1000 by omega] at L
      have ee : bl (st.2.1 i) - P = tz (st.2.1 i) - t := by omega
      refine ⟨_, _, false, 999, L, ?_, by omega, ?_⟩
      · rw [ee]
        generalize od (st.2.1 i) = o at *
        generalize tz (st.2.1 i) = z at *
        rw [wi, mul_pow_div _ (by omega), show z - (z - t) = t by omega]
      · rw [ee]
        generalize od (st.2.1 i) = o at *
        generalize tz (st.2.1 i) = z at *
        rw [wi, mul_pow_mod _ (by omega)]; rfl
    · obtain ⟨t, ht⟩ : ∃ t : Nat, bl (od (st.2.1 i)) = P + t := ⟨bl (od (st.2.1 i)) - P, by omega⟩
      have L0 : f_Y_step_85 1000 (nI d) (nI i) (iI P) (lN (od (st.2.1 i))) (iI (ez (st.2.1 i))) (bI away) 0 st.2.2.1 st.2.2.2.1 st.2.2.2.2 (yO st) (yN st) (yB st) = f_Y_step_109 1000 (nI d) (nI i) (iI P) (lN (od (st.2.1 i))) (iI (ez (st.2.1 i))) (bI away) 0 st.2.2.1 st.2.2.2.1 st.2.2.2.2 (yO st) (yN st) (yB st) := by
        rw [show (1000 : Nat) = 999 + 1 from rfl, f_Y_step_85, bits_ok (by omega), Option.bind_some, if_pos ((iI_le (by omega) (by omega) (by omega) (by omega)).mpr (by omega))]
      have L := sy_109 (st := st) (d := d) (i := i) (P := P) away (by omega) t (999 - t + 1) _ (ez (st.2.1 i)) false ht (by omega) (by omega) (by omega) (by omega)
      rw [show 999 - t + 1 + t = 1000 by omega] at L
      have ee : bl (st.2.1 i) - P = t + tz (st.2.1 i) := by omega
      refine ⟨_, _, _, 999 - t, L0.trans L, ?_, by omega, ?_⟩
      · rw [ee]
        generalize od (st.2.1 i) = o at *
        generalize tz (st.2.1 i) = z at *
        rw [wi, Nat.pow_add, Nat.mul_div_mul_right _ _ (Nat.two_pow_pos z)]
      · rw [ee, Bool.false_or, decide_eq_decide]
        generalize od (st.2.1 i) = o at *
        generalize tz (st.2.1 i) = z at *
        rw [wi, Nat.pow_add, Nat.mul_mod_mul_right]
        have := Nat.two_pow_pos z
        constructor
        · intro q r
          rcases Nat.mul_eq_zero.mp r with r | r
          · exact q r
          · omega
        · intro q r; exact q (by rw [r, Nat.zero_mul])
  obtain ⟨m, e, cut, n, E, h1, h2, h3⟩ := key
  rw [E]
  exact sy_end hd hi hv v0 hP away cut h1 h2 h3 n
theorem Y_step_ok {st : ASt} (hI : Inv st) (a1 a2 : Int32) (up : Bool) (a4 : Int32) : f_Y_step st.2.2.1 st.2.2.2.1 st.2.2.2.2 (yO st) (yN st) (yB st) a1 a2 (bI up) a4 = some (YR (A_step st a1 a2 up a4)) := by
  unfold f_Y_step A_step
  by_cases h1 : okr a1
  · rw [out_t h1, Option.bind_some, if_pos rfl]
    by_cases h2 : okr a2
    · rw [out_t h2, Option.bind_some, if_pos rfl, if_pos (show okr a1 ∧ okr a2 from ⟨h1, h2⟩), size_Y, Option.bind_some]
      obtain ⟨d, hd, rfl⟩ := okr_nI h1
      obtain ⟨i, hi, rfl⟩ := okr_nI h2
      have hf := od_facts (hI i).1
      simp only [if_neg (in8 hi)]
      simp only [ix, cl8 hi, cl8 hd]
      rw [show yO st i = lN (od (st.2.1 i)) from rfl, show yN st i = iI (ez (st.2.1 i)) from rfl, show yB st i = bI (st.1 i) from rfl]
      have hP : bitsOf a4 = 53 ∨ bitsOf a4 = 24 := by unfold bitsOf; split <;> omega
      by_cases v0 : st.2.1 i = 0
      · rw [if_pos ((c0_eq (by omega)).mpr (hf.2.2.2.2.1.mpr v0)), if_pos v0]
        have F : ∀ b : Bool, f_Y_step_57 (bI b) (nI d) st.2.2.1 st.2.2.2.1 st.2.2.2.2 (yO st) (yN st) (yB st) = some (YR (gop st d b (stp (st.2.1 i) (bitsOf a4) (up != st.1 i)) 0)) := by
          intro b
          have F := fin_Y (st := st) hd (ng := b) (m := 1) (e := -100) (c := 0) (by decide) (by decide) (by decide) (Or.inr (Or.inl rfl))
          rw [show iI 0 = (0 : Int32) from rfl, show iI (-100) = (-100 : Int32) by decide, show lN 1 = (1 : Int64) from rfl] at F
          unfold f_Y_step_57 stp
          rw [F, Option.bind_some, if_pos v0, show val 1 (-100) = 2 ^ 1900 from Nat.one_mul _]
        cases up
        · rw [if_pos (show bI false = 0 from rfl)]; exact F true
        · rw [if_neg (show ¬ bI true = 0 by decide)]; exact F false
      · have o0 : od (st.2.1 i) ≠ 0 := fun q => v0 (hf.2.2.2.2.1.mp q)
        rw [if_neg (fun q => o0 ((c0_eq (by omega)).mp q)), if_neg v0]
        have G := sy_go hI hd hi v0 hP (up != st.1 i)
        by_cases hu : up = st.1 i
        · have e : (up != st.1 i) = false := by rw [hu]; cases st.1 i <;> rfl
          rw [if_pos ((bI_inj _ _).mpr hu)]
          rw [e] at G ⊢
          exact G
        · have e : (up != st.1 i) = true := by revert hu; cases up <;> cases st.1 i <;> decide
          rw [if_neg (fun q => hu ((bI_inj _ _).mp q))]
          rw [e] at G ⊢
          exact G
    · rw [out_f h2, Option.bind_some, if_neg (by decide), if_neg (fun q => h2 q.2)]
  · rw [out_f h1, Option.bind_some, if_neg (by decide), if_neg (fun q => h1 q.1)]
