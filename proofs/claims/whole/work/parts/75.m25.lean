/-! PURE: Y's round, copy, scale, odd, exponent, set, refused, count -/
theorem rv_0 {P : Nat} : rv P 0 false = 0 ∧ rc P 0 false = 0 := by
  unfold rv rc rnd
  rw [if_pos (by rw [bl_0]; omega)]
  exact ⟨Nat.zero_mul _, rfl⟩
theorem gop_aop {st : ASt} {d P N : Nat} {ng S : Bool} {sg : Int} (h : sg = (if ng = true then -1 else 1) ∨ (sg = 0 ∧ N = 0 ∧ S = false)) : gop st d ng (rv P N S) (rc P N S) = aop st d sg N S P := by
  unfold gop aop
  rcases h with h | ⟨h1, h2, h3⟩
  · have e1 : decide (sg < 0) = ng := by rw [h]; cases ng <;> rfl
    have e2 : (if ng = true then -rc P N S else rc P N S) = sg * rc P N S := by
      rw [h]; cases ng
      · rw [if_neg (by decide), if_neg (by decide), Int.one_mul]
      · rw [if_pos rfl, if_pos rfl, Int.neg_mul, Int.one_mul]
    rw [e1, e2]
  · subst h1; subst h2; subst h3
    rw [rv_0.1, rv_0.2]
    have e1 : (ng && decide ((0 : Nat) ≠ 0)) = (decide ((0 : Int) < 0) && decide ((0 : Nat) ≠ 0)) := by cases ng <;> rfl
    have e2 : (if ng = true then -(0 : Int) else 0) = 0 * 0 := by cases ng <;> rfl
    rw [e1, e2]
theorem r155 {st : ASt} {d : Nat} (hd : d < 8) {ng up : Bool} {m : Nat} {te dr : Int} (y3 : Int64) (y5 : Int32) (hm : m < 2 ^ 62) (h1 : -2000 ≤ te + dr) (h2 : te + dr < 90000) : f_Y_round_138 (nI d) (bI ng) (iI dr) (lN m) (bI up) st.2.2.1 st.2.2.2.1 st.2.2.2.2 y3 (iI te) y5 (yO st) (yN st) (yB st) = some (YR (gop st d ng (val (m + if up = true then 1 else 0) (te + dr)) (if up = true then 1 else -1))) := by
  unfold f_Y_round_138 f_Y_round_155
  rw [iI_add]
  cases up
  · rw [if_pos (show bI false = 0 from rfl), if_pos (show bI false = 0 from rfl)]
    rw [show (-1 : Int32) = iI (-1) by decide, fin_Y hd (by omega) h1 h2 (Or.inl rfl), Option.bind_some]
    rfl
  · rw [if_neg (show ¬ bI true = 0 by decide), if_neg (show ¬ bI true = 0 by decide)]
    rw [show (1 : Int64) = lN 1 from rfl, lNadd, show (1 : Int32) = iI 1 by decide, fin_Y hd (by omega) h1 h2 (Or.inr (Or.inr rfl)), Option.bind_some]
    rfl
theorem r105 {st : ASt} {d : Nat} (hd : d < 8) {ng up re : Bool} {m low : Nat} {te dr : Int} (y3 : Int64) (hm : m < 2 ^ 62) (hl : low < 2 ^ 63) (h1 : -2000 ≤ te + dr) (h2 : te + dr < 90000) : f_Y_round_105 (nI d) (bI ng) (iI dr) (lN low) (lN m) (bI up) st.2.2.1 st.2.2.2.1 st.2.2.2.2 y3 (iI te) (bI re) (yO st) (yN st) (yB st) = some (YR (if low = 0 ∧ re = false then gop st d ng (val m (te + dr)) 0 else gop st d ng (val (m + if up = true then 1 else 0) (te + dr)) (if up = true then 1 else -1))) := by
  unfold f_Y_round_105
  have R := r155 (st := st) hd (ng := ng) (up := up) (m := m) (te := te) (dr := dr) y3 (bI re) hm h1 h2
  by_cases l0 : low = 0
  · rw [if_pos ((c0_eq hl).mpr l0)]
    by_cases r0 : re = false
    · subst r0
      rw [if_pos (show bI false = 0 from rfl), if_pos (show low = 0 ∧ false = false from ⟨l0, rfl⟩), iI_add, show (0 : Int32) = iI 0 from rfl, fin_Y hd (by omega) h1 h2 (Or.inr (Or.inl rfl)), Option.bind_some]
    · rw [if_neg (fun q => r0 ((bI_0 _).mp q)), if_neg (fun q => r0 q.2)]; exact R
  · rw [if_neg (fun q => l0 ((c0_eq hl).mp q)), if_neg (fun q => l0 q.1)]; exact R
set_option maxHeartbeats 1000000 in
theorem round_Y {st : ASt} {d : Nat} (hd : d < 8) {ng re : Bool} {T P : Nat} {te : Int} (hP : 1 ≤ P ∧ P ≤ 53) (hT : T < 2 ^ 62) (h1 : -2000 ≤ te) (h2 : te < 80000) : f_Y_round st.2.2.1 st.2.2.2.1 st.2.2.2.2 (lN T) (iI te) (bI re) (yO st) (yN st) (yB st) (nI d) (bI ng) (iI P) = some (YR (gop st d ng (val (rnd P T te re).1 (rnd P T te re).2.1) (rnd P T te re).2.2)) := by
  unfold f_Y_round
  have hb : bl T ≤ 62 := bl_le_iff.mpr hT
  rw [bits_ok (by omega), Option.bind_some, iI_sub]
  by_cases h : bl T ≤ P
  · rw [if_neg (fun q => by have := (iI_pos (by omega) (by omega)).mp q; omega), show (0 : Int32) = iI 0 from rfl, fin_Y hd (by omega) h1 (by omega) (Or.inr (Or.inl rfl)), Option.bind_some]
    unfold rnd
    rw [if_pos h]
  · obtain ⟨D, hD⟩ : ∃ D : Nat, D = bl T - P := ⟨_, rfl⟩
    have hDi : (bl T : Int) - P = (D : Int) := by omega
    rw [hDi, if_pos ((iI_pos (by omega) (by omega)).mpr (by omega)), show (1 : Int64) = lN 1 from rfl, jshl_i _ (by omega) (by omega), Nat.one_mul, Int.toNat_natCast, lNsub (Nat.one_le_two_pow), wb_mask (by omega) (by omega), jshr_i (by omega) (by omega) (by omega), Int.toNat_natCast, show (2 : Int64) = lN 2 from rfl, lN_mul]
    have hp := Nat.two_pow_pos D
    have hlow := Nat.mod_lt T hp
    have hDp : 2 ^ D ≤ 2 ^ 61 := pow_mono (by omega)
    have hm : T / 2 ^ D ≤ T := Nat.div_le_self _ _
    have R := fun up => r105 (st := st) hd (ng := ng) (up := up) (re := re) (m := T / 2 ^ D) (low := T % 2 ^ D) (te := te) (dr := D) (lN T) (by omega) (by omega) (by omega) (by omega)
    have key : ∀ up : Bool, up = rup T D re → some (YR (if T % 2 ^ D = 0 ∧ re = false then gop st d ng (val (T / 2 ^ D) (te + D)) 0 else gop st d ng (val (T / 2 ^ D + if up = true then 1 else 0) (te + D)) (if up = true then 1 else -1))) = some (YR (gop st d ng (val (rnd P T te re).1 (rnd P T te re).2.1) (rnd P T te re).2.2)) := by
      intro up hu
      unfold rnd
      rw [if_neg h, ← hD]
      show _ = some (YR (gop st d ng (val (T / 2 ^ D + if rup T D re = true then 1 else 0) (te + (D : Int))) (if T % 2 ^ D = 0 ∧ re = false then 0 else if rup T D re = true then 1 else -1)))
      by_cases z : T % 2 ^ D = 0 ∧ re = false
      · rw [if_pos z, if_pos z]
        have : ¬ rup T D re = true := by
          rw [rup_iff]
          rintro (q | ⟨q, -⟩) <;> omega
        rw [if_neg this]; rfl
      · rw [if_neg z, if_neg z, hu]
    have c1 : 0 < lg_cmp (lN (2 * (T % 2 ^ D))) (lN (2 ^ D)) ↔ 2 ^ D < 2 * (T % 2 ^ D) := cN_gt (by omega) (by omega)
    have c2 : lg_cmp (lN (2 * (T % 2 ^ D))) (lN (2 ^ D)) = 0 ↔ 2 * (T % 2 ^ D) = 2 ^ D := cN_eq (by omega) (by omega)
    have hru := rup_iff T D re
    by_cases k1 : 2 ^ D < 2 * (T % 2 ^ D)
    · rw [if_pos (c1.mpr k1), show (1 : Int32) = bI true from rfl, R]
      exact key true (hru.mpr (Or.inl k1)).symm
    · rw [if_neg (fun q => k1 (c1.mp q))]
      by_cases k2 : 2 * (T % 2 ^ D) = 2 ^ D
      · rw [if_pos (c2.mpr k2)]
        by_cases r0 : re = false
        · rw [if_pos ((bI_0 _).mpr r0), pk_lRem (by omega) (by decide) (by decide)]
          by_cases k3 : T / 2 ^ D % 2 = 1
          · rw [if_pos ((cN_eq (by omega) (by decide)).mpr k3), show (1 : Int32) = bI true from rfl, R]
            exact key true (hru.mpr (Or.inr ⟨k2, Or.inr k3⟩)).symm
          · rw [if_neg (fun q => k3 ((cN_eq (by omega) (by decide)).mp q))]
            show f_Y_round_105 _ _ _ _ _ (bI false) _ _ _ _ _ _ _ _ _ = _
            rw [R]
            refine key false (Eq.symm ?_)
            have : ¬ rup T D re = true := by
              rw [hru]; rintro (q | ⟨-, q | q⟩)
              · exact k1 q
              · rw [r0] at q; cases q
              · exact k3 q
            simpa using this
        · rw [if_neg (fun q => r0 ((bI_0 _).mp q)), show (1 : Int32) = bI true from rfl, R]
          exact key true (hru.mpr (Or.inr ⟨k2, Or.inl (by simpa using r0)⟩)).symm
      · rw [if_neg (fun q => k2 (c2.mp q))]
        show f_Y_round_105 _ _ _ _ _ (bI false) _ _ _ _ _ _ _ _ _ = _
        rw [R]
        refine key false (Eq.symm ?_)
        have : ¬ rup T D re = true := by
          rw [hru]; rintro (q | ⟨q, -⟩)
          · exact k1 q
          · exact k2 q
        simpa using this
/-- Y's round of what stands for the exact number -/
theorem roundA {st : ASt} {d : Nat} (hd : d < 8) {ng re S : Bool} {T P N : Nat} {te sg : Int} (hP : 1 ≤ P ∧ P ≤ 53) (hT : T < 2 ^ 62) (h1 : -2000 ≤ te) (h2 : te < 80000) (hR : Rep N S T te re) (hs : (S = false ∧ re = false) ∨ 53 < bl T) (hsg : sg = (if ng = true then -1 else 1) ∨ (sg = 0 ∧ N = 0 ∧ S = false)) : f_Y_round st.2.2.1 st.2.2.2.1 st.2.2.2.2 (lN T) (iI te) (bI re) (yO st) (yN st) (yB st) (nI d) (bI ng) (iI P) = some (YR (aop st d sg N S P)) := by
  obtain ⟨g1, g2⟩ := rnd_rep (p := P) hR (by rcases hs with q | q; exact Or.inl q; exact Or.inr (by omega))
  rw [round_Y hd hP hT h1 h2, ← gop_aop hsg, ← g1, ← g2]
  rfl
theorem sgn_ng {st : ASt} (i : Nat) : (zz st i).sign = (if st.1 i = true then -1 else 1) ∨ ((zz st i).sign = 0 ∧ st.2.1 i = 0) := by
  rw [zz_sign]; unfold sgn
  by_cases h : st.2.1 i = 0
  · rw [if_pos h]; exact Or.inr ⟨rfl, h⟩
  · rw [if_neg h]; exact Or.inl rfl
theorem Y_copy_ok {st : ASt} (hI : Inv st) (t1 : Int64) (t2 t3 a1 a2 a3 : Int32) : ∃ (j1 : Int64) (j2 j3 : Int32), f_Y_copy st.2.2.1 st.2.2.2.1 st.2.2.2.2 t1 t2 t3 (yO st) (yN st) (yB st) a1 a2 a3 = some ((A_copy st a1 a2 a3).1, (A_copy st a1 a2 a3).2.2.2.1, (A_copy st a1 a2 a3).2.2.2.2.1, (A_copy st a1 a2 a3).2.2.2.2.2, j1, j2, j3, yO (A_copy st a1 a2 a3).2, yN (A_copy st a1 a2 a3).2, yB (A_copy st a1 a2 a3).2) := by
  unfold f_Y_copy A_copy
  by_cases h1 : okr a1
  · rw [out_t h1, Option.bind_some, if_pos rfl]
    by_cases h2 : okr a2
    · rw [out_t h2, Option.bind_some, if_pos rfl, if_pos (show okr a1 ∧ okr a2 from ⟨h1, h2⟩)]
      obtain ⟨d, hd, rfl⟩ := okr_nI h1
      obtain ⟨i, hi, rfl⟩ := okr_nI h2
      have hf := od_facts (hI i).1
      simp only [if_neg (in8 hi)]
      rw [size_Y, Option.bind_some]
      simp only [ix, cl8 hi, cl8 hd]
      have hR : Rep (zz st i).natAbs false (od (st.2.1 i)) (ez (st.2.1 i)) false := by
        rw [zz_abs]
        have := Rep_self (V := od (st.2.1 i)) (q := (ez (st.2.1 i) + 2000).toNat) (p := ez (st.2.1 i)) (by omega)
        rw [show od (st.2.1 i) * 2 ^ (ez (st.2.1 i) + 2000).toNat = st.2.1 i from hf.2.1] at this
        exact this
      have R := roundA (st := st) hd (ng := st.1 i) (P := bitsOf a3) (bitsOf_in a3) (by omega) (by omega) (by omega) hR (Or.inl ⟨rfl, rfl⟩) (sg := (zz st i).sign) (by
        rcases sgn_ng (st := st) i with q | ⟨q1, q2⟩
        · exact Or.inl q
        · exact Or.inr ⟨q1, by rw [zz_abs]; exact q2, rfl⟩)
      rw [show bI false = (0 : Int32) from rfl] at R
      rw [show yO st i = lN (od (st.2.1 i)) from rfl, show yN st i = iI (ez (st.2.1 i)) from rfl, show yB st i = bI (st.1 i) from rfl, R, Option.bind_some]
      exact ⟨_, _, _, rfl⟩
    · rw [out_f h2, Option.bind_some, if_neg (by decide), if_neg (fun q => h2 q.2)]
      exact ⟨_, _, _, rfl⟩
  · rw [out_f h1, Option.bind_some, if_neg (by decide), if_neg (fun q => h1 q.1)]
    exact ⟨_, _, _, rfl⟩
theorem scl_od {v : Nat} (hv : vok v) {n : Int} (h1 : -500 ≤ n) : val (od v) (ez v + n) = scl v n := by
  have hf := od_facts hv
  obtain ⟨k, hk⟩ : ∃ k : Nat, (k : Int) = ez v + 2000 := ⟨(ez v + 2000).toNat, by omega⟩
  have hw := hf.2.1
  unfold val at hw
  rw [show (ez v + 2000).toNat = k by omega] at hw
  unfold scl val
  rw [show (ez v + n + 2000).toNat = k + (n + 500).toNat - 500 by omega]
  generalize od v = o at *
  have hk5 : 500 ≤ k + (n + 500).toNat := by omega
  rw [← hw, Nat.mul_assoc, ← Nat.pow_add, mul_pow_div _ hk5]
theorem Y_scale_ok {st : ASt} (hI : Inv st) (a1 a2 a3 : Int32) : f_Y_scale st.2.2.1 st.2.2.2.1 st.2.2.2.2 (yO st) (yN st) (yB st) a1 a2 a3 = some (YR (A_scale st a1 a2 a3)) := by
  unfold f_Y_scale A_scale
  have l1 : a3 < (-500 : Int32) ↔ a3.toInt < -500 := by rw [show (-500 : Int32) = iI (-500) by decide]; exact (lt_lit (a := a3) (n := -500) (by decide) (by decide)).1
  have l2 : a3 ≤ (500 : Int32) ↔ a3.toInt ≤ 500 := by rw [show (500 : Int32) = iI (500) by decide]; exact (lt_lit (a := a3) (n := 500) (by decide) (by decide)).2.1
  by_cases h1 : okr a1
  · rw [out_t h1, Option.bind_some, if_pos rfl]
    by_cases h2 : okr a2
    · rw [out_t h2, Option.bind_some, if_pos rfl]
      by_cases c1 : a3.toInt < -500
      · rw [if_pos (l1.mpr c1), if_neg (show ¬ sok a1 a2 a3 from fun q => by have := q.2.2.1; omega)]
      · rw [if_neg (fun q => c1 (l1.mp q))]
        by_cases c2 : a3.toInt ≤ 500
        · rw [if_pos (l2.mpr c2), if_pos (show sok a1 a2 a3 from ⟨h1, h2, by omega, c2⟩)]
          obtain ⟨d, hd, rfl⟩ := okr_nI h1
          obtain ⟨i, hi, rfl⟩ := okr_nI h2
          have hf := od_facts (hI i).1
          simp only [if_neg (in8 hi)]
          simp only [ix, cl8 hi, cl8 hd]
          have F := fin_Y (st := st) hd (ng := st.1 i) (m := od (st.2.1 i)) (e := ez (st.2.1 i) + a3.toInt) (c := 0) (by omega) (by omega) (by omega) (Or.inr (Or.inl rfl))
          rw [← iI_add, iI_self, show iI 0 = (0 : Int32) from rfl, scl_od (hI i).1 (by omega)] at F
          rw [show yO st i = lN (od (st.2.1 i)) from rfl, show yN st i = iI (ez (st.2.1 i)) from rfl, show yB st i = bI (st.1 i) from rfl, F, Option.bind_some]
          have hr : rv 53 (scl (st.2.1 i) a3.toInt) false = scl (st.2.1 i) a3.toInt ∧ rc 53 (scl (st.2.1 i) a3.toInt) false = 0 := by
            rw [← scl_od (hI i).1 (by omega)]
            exact rv_fit (bl_le_iff.mpr hf.1)
          have G := gop_aop (st := st) (d := d) (P := 53) (N := scl (st.2.1 i) a3.toInt) (S := false) (ng := st.1 i) (sg := (zz st i).sign) (by
            rcases sgn_ng (st := st) i with q | ⟨q1, q2⟩
            · exact Or.inl q
            · refine Or.inr ⟨q1, ?_, rfl⟩
              rw [q2]; unfold scl; rw [Nat.zero_mul, Nat.zero_div])
          rw [hr.1, hr.2] at G
          rw [G]
        · rw [if_neg (fun q => c2 (l2.mp q)), if_neg (show ¬ sok a1 a2 a3 from fun q => by have := q.2.2.2; omega)]
    · rw [out_f h2, Option.bind_some, if_neg (by decide), if_neg (show ¬ sok a1 a2 a3 from fun q => h2 q.2.1)]
  · rw [out_f h1, Option.bind_some, if_neg (by decide), if_neg (show ¬ sok a1 a2 a3 from fun q => h1 q.1)]
theorem Y_odd_ok (st : ASt) (a1 : Int32) : f_Y_odd (yO st) (yB st) a1 = some (A_odd st a1) := by
  unfold f_Y_odd A_odd
  by_cases h1 : okr a1
  · rw [out_t h1, Option.bind_some, if_pos rfl, if_pos h1]
    obtain ⟨i, hi, rfl⟩ := okr_nI h1
    simp only [if_neg (in8 hi)]
    simp only [ix, cl8 hi]
    rw [show yO st i = lN (od (st.2.1 i)) from rfl, show yB st i = bI (st.1 i) from rfl]
    cases st.1 i
    · rw [if_pos (show bI false = 0 from rfl), if_neg (by decide), lI_lN]
    · rw [if_neg (show ¬ bI true = 0 by decide), if_pos rfl, ← lI_lN, lI_neg]
  · rw [out_f h1, Option.bind_some, if_neg (by decide), if_neg h1]; exact congrArg some (by decide +kernel)
theorem Y_exp_ok {st : ASt} (hI : Inv st) (a1 : Int32) : f_Y_exponent (yN st) a1 = some (A_exp st a1) := by
  unfold f_Y_exponent A_exp
  by_cases h1 : okr a1
  · rw [out_t h1, Option.bind_some, if_pos rfl, if_pos h1]
    obtain ⟨i, hi, rfl⟩ := okr_nI h1
    have hf := od_facts (hI i).1
    simp only [if_neg (in8 hi)]
    simp only [ix, cl8 hi]
    rw [show yN st i = iI (ez (st.2.1 i)) from rfl, i2l_ok (by omega) (by omega)]
  · rw [out_f h1, Option.bind_some, if_neg (by decide), if_neg h1]; exact congrArg some (by decide +kernel)
