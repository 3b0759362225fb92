/-! PURE: Y's whole, remainder, step -/
theorem w_val {v : Nat} (hv : vok v) : v / 2 ^ 2000 = if 0 ≤ ez v then od v * 2 ^ (ez v).toNat else od v / 2 ^ (-(ez v)).toNat := by
  have hf := od_facts hv
  have hw := hf.2.1
  unfold val at hw
  by_cases h : 0 ≤ ez v
  · rw [if_pos h]
    obtain ⟨k, hk⟩ : ∃ k : Nat, ez v = k := ⟨(ez v).toNat, by omega⟩
    rw [hk] at hw ⊢
    rw [show ((k : Int) + 2000).toNat = k + 2000 by omega] at hw
    generalize od v = o at *
    rw [← hw, mul_pow_div _ (by omega), Nat.add_sub_cancel, Int.toNat_natCast]
  · rw [if_neg h]
    obtain ⟨k, hk⟩ : ∃ k : Nat, ez v = -(k : Int) := ⟨(-(ez v)).toNat, by omega⟩
    obtain ⟨t, ht⟩ : ∃ t : Nat, (ez v + 2000).toNat = t := ⟨_, rfl⟩
    have hkt : 2000 = k + t := by omega
    rw [ht] at hw
    rw [hk, show (-(-(k : Int))).toNat = k by omega]
    generalize od v = o at *
    rw [← hw, hkt, Nat.pow_add, Nat.mul_div_mul_right _ _ (Nat.two_pow_pos t)]
theorem wcl_in {lo hi z : Int} (h1 : lo ≤ z) (h2 : z ≤ hi) : wcl lo hi z = z := by unfold wcl; rw [if_neg (by omega), if_neg (by omega)]
theorem wcl_lo {lo hi z : Int} (h1 : z ≤ lo) (h2 : lo ≤ hi) : wcl lo hi z = lo := by
  unfold wcl; by_cases h : z < lo
  · rw [if_pos h]
  · rw [if_neg h, if_neg (by omega)]; omega
theorem wcl_hi {lo hi z : Int} (h1 : hi ≤ z) (h2 : lo ≤ hi) : wcl lo hi z = hi := by
  unfold wcl; rw [if_neg (by omega)]
  by_cases h : hi < z
  · rw [if_pos h]
  · rw [if_neg h]; omega
theorem w22 {st : ASt} (hI : Inv st) {i L : Nat} (hi : i < 8) {a2 : Int32} (hL : (a2 = 0 ∧ L = 31) ∨ (a2 ≠ 0 ∧ L = 63)) {E : Int} (hE : E + 1 = ((2 ^ L : Nat) : Int)) : f_Y_whole_22 (nI i) a2 (iI L) (yO st) (yN st) (yB st) = some (lI (wcl (-E - 1) E (wz st i))) := by
  have hf := od_facts (hI i).1
  have hb : bl (od (st.2.1 i)) ≤ 53 := bl_le_iff.mpr hf.1
  have hz : wz st i = if st.1 i = true then -((st.2.1 i / 2 ^ 2000 : Nat) : Int) else ((st.2.1 i / 2 ^ 2000 : Nat) : Int) := rfl
  have hLL : L = 31 ∨ L = 63 := by rcases hL with q | q <;> omega
  have hE0 : 2147483647 ≤ E ∧ E ≤ 9223372036854775807 := by rcases hLL with rfl | rfl <;> omega
  unfold f_Y_whole_22
  simp only [if_neg (in8 hi)]
  simp only [cl8 hi]
  have hbw := bl_div (st.2.1 i) 2000
  have hwv := w_val (hI i).1
  rw [show yO st i = lN (od (st.2.1 i)) from rfl, show yN st i = iI (ez (st.2.1 i)) from rfl]
  rw [bits_ok (by omega), Option.bind_some, iI_add]
  generalize st.2.1 i / 2 ^ 2000 = w at *
  by_cases v0 : st.2.1 i = 0
  · rw [if_pos ((c0_eq (by omega)).mpr (hf.2.2.2.2.1.mpr v0))]
    have w0 : w = 0 := by
      have : bl (st.2.1 i) = 0 := by rw [v0]; rfl
      have h0 : bl w ≤ 0 := by omega
      have := bl_le_iff.mp h0; omega
    have : wz st i = 0 := by rw [hz, w0]; cases st.1 i <;> rfl
    rw [this, wcl_in (by omega) (by omega)]; rfl
  · have o0 : od (st.2.1 i) ≠ 0 := fun q => v0 (hf.2.2.2.2.1.mp q)
    obtain ⟨-, g, -, -⟩ := hf.2.2.2.2.2 v0
    rw [if_neg (fun q => o0 ((c0_eq (by omega)).mp q))]
    by_cases c1 : 0 < (bl (od (st.2.1 i)) : Int) + ez (st.2.1 i)
    · rw [if_pos ((iI_pos (by omega) (by omega)).mpr c1)]
      by_cases c2 : (bl (od (st.2.1 i)) : Int) + ez (st.2.1 i) ≤ L
      · rw [if_pos ((iI_le (by omega) (by omega) (by omega) (by omega)).mpr c2)]
        have hwL : w < 2 ^ L := bl_le_iff.mp (by omega)
        have w139 : f_Y_whole_139 (nI i) (lN w) (yO st) (yN st) (yB st) = some (lI (wcl (-E - 1) E (wz st i))) := by
          unfold f_Y_whole_139
          rw [if_neg (in8 hi), cl8 hi, show yB st i = bI (st.1 i) from rfl]
          cases s : st.1 i
          · rw [s, if_neg (by decide)] at hz
            rw [if_pos (show bI false = 0 from rfl), wcl_in (by omega) (by omega), hz, lI_lN]
          · rw [s, if_pos rfl] at hz
            rw [if_neg (show ¬ bI true = 0 by decide), wcl_in (by omega) (by omega), hz, ← lI_lN, lI_neg]
        by_cases c3 : 0 ≤ ez (st.2.1 i)
        · rw [if_neg (fun q => by have := (iI_lt0 (by omega) (by omega)).mp q; omega), jshl_i _ c3 (by rcases hLL with rfl | rfl <;> omega)]
          rw [if_pos c3] at hwv
          rw [← hwv]; exact w139
        · rw [if_pos ((iI_lt0 (by omega) (by omega)).mpr (by omega)), iI_neg, jshr_i (by omega) (by omega) (by omega)]
          rw [if_neg c3] at hwv
          rw [← hwv]; exact w139
      · rw [if_neg (fun q => c2 ((iI_le (by omega) (by omega) (by omega) (by omega)).mp q))]
        have hwL : 2 ^ L ≤ w := bl_lt_iff.mp (by omega)
        have w78 : f_Y_whole_78 (nI i) (lI E) (yO st) (yN st) (yB st) = some (lI (wcl (-E - 1) E (wz st i))) := by
          unfold f_Y_whole_78
          rw [if_neg (in8 hi), cl8 hi, show yB st i = bI (st.1 i) from rfl]
          cases s : st.1 i
          · rw [s, if_neg (by decide)] at hz
            rw [if_pos (show bI false = 0 from rfl), wcl_hi (by omega) (by omega)]
          · rw [s, if_pos rfl] at hz
            rw [if_neg (show ¬ bI true = 0 by decide), wcl_lo (by omega) (by omega), lI_neg, show (1 : Int64) = lI 1 from rfl, lI_sub]
        rcases hL with ⟨q1, q2⟩ | ⟨q1, q2⟩
        · subst q2
          have : E = 2147483647 := by omega
          subst this
          rw [if_pos q1]; exact w78
        · subst q2
          have : E = 9223372036854775807 := by omega
          subst this
          rw [if_neg q1]; exact w78
    · rw [if_neg (fun q => c1 ((iI_pos (by omega) (by omega)).mp q))]
      have w0 : w = 0 := by
        have h0 : bl w ≤ 0 := by omega
        have := bl_le_iff.mp h0; omega
      have : wz st i = 0 := by rw [hz, w0]; cases st.1 i <;> rfl
      rw [this, wcl_in (by omega) (by omega)]; rfl
theorem Y_whole_ok {st : ASt} (hI : Inv st) (a1 a2 : Int32) : f_Y_whole (yO st) (yN st) (yB st) a1 a2 = some (A_whole st a1 a2) := by
  unfold f_Y_whole A_whole
  by_cases h1 : okr a1
  · rw [out_t h1, Option.bind_some, if_pos rfl, if_pos h1]
    obtain ⟨i, hi, rfl⟩ := okr_nI h1
    simp only [ix, cl8 hi]
    by_cases h : a2 = 0
    · rw [if_pos h, if_pos h]
      exact w22 hI hi (L := 31) (Or.inl ⟨h, rfl⟩) (E := 2147483647) (by decide)
    · rw [if_neg h, if_neg h]
      exact w22 hI hi (L := 63) (Or.inr ⟨h, rfl⟩) (E := 9223372036854775807) (by decide)
  · rw [out_f h1, Option.bind_some, if_neg (by decide), if_neg h1]; exact congrArg some (by decide +kernel)
/-- a value that needs no rounding -/
theorem gop_zop {st : ASt} {d r : Nat} {e : Int} {ng : Bool} {z : Int} (hr : r < 2 ^ 53) (hz : z = if ng = true then -((val r e : Nat) : Int) else ((val r e : Nat) : Int)) : gop st d ng (val r e) 0 = zop st d z 53 := by
  have f := rv_fit (q := (e + 2000).toNat) (bl_le_iff.mpr hr)
  have ha : z.natAbs = val r e := by rw [hz]; cases ng <;> simp
  unfold zop
  rw [← gop_aop (ng := ng) (sg := z.sign) (N := z.natAbs), ha]
  · show _ = gop st d ng (rv 53 (r * 2 ^ (e + 2000).toNat) false) (rc 53 (r * 2 ^ (e + 2000).toNat) false)
    rw [f.1, f.2]; rfl
  · by_cases h : val r e = 0
    · exact Or.inr ⟨by rw [hz, h]; cases ng <;> rfl, by omega, rfl⟩
    · left
      rw [hz]; cases ng
      · exact Int.sign_eq_one_of_pos (by simp; omega)
      · exact Int.sign_eq_neg_one_of_neg (by simp; omega)
theorem rm_154 {st : ASt} {d i j : Nat} (hd : d < 8) (hi : i < 8) (hj : j < 8) (o2 : od (st.2.1 j) ≠ 0) (h53 : od (st.2.1 j) < 2 ^ 53) (hez : -2000 ≤ ez (st.2.1 j) ∧ ez (st.2.1 j) < 1000) {U a : Nat} (hU : U < 900) : ∀ (n k : Nat), k ≤ U → U - k < n → f_Y_remainder_154 n (nI d) (nI i) (nI j) (nI U) (lN (a * 2 ^ k % od (st.2.1 j))) (nI k) st.2.2.1 st.2.2.2.1 st.2.2.2.2 (yO st) (yN st) (yB st) = some (YR (gop st d (st.1 i) (val (a * 2 ^ U % od (st.2.1 j)) (ez (st.2.1 j))) 0)) := by
  intro n
  induction n with
  | zero => intro k _ h; omega
  | succ n ih =>
    intro k hk hn
    have hm := Nat.mod_lt (a * 2 ^ k) (Nat.pos_of_ne_zero o2)
    rw [f_Y_remainder_154]
    simp only [if_neg (in8 hi), if_neg (in8 hj)]
    simp only [cl8 hi, cl8 hj]
    by_cases h : k = U
    · subst h
      rw [if_pos ((nI_leI (by omega) (by omega)).mpr (Nat.le_refl _))]
      have F := fin_Y (st := st) hd (ng := st.1 i) (m := a * 2 ^ k % od (st.2.1 j)) (e := ez (st.2.1 j)) (c := 0) (by omega) hez.1 (by omega) (Or.inr (Or.inl rfl))
      rw [show iI 0 = (0 : Int32) from rfl] at F
      rw [show yN st j = iI (ez (st.2.1 j)) from rfl, show yB st i = bI (st.1 i) from rfl, F, Option.bind_some]
    · rw [if_neg (fun q => by have := (nI_leI (by omega) (by omega)).mp q; omega), show yO st j = lN (od (st.2.1 j)) from rfl, if_neg (fun q => o2 ((lN_e0 (by omega)).mp q)), show (2 : Int64) = lN 2 from rfl, lN_mul, pk_lRem (by omega) (by omega) (by omega), nI_1]
      have e : 2 * (a * 2 ^ k % od (st.2.1 j)) % od (st.2.1 j) = a * 2 ^ (k + 1) % od (st.2.1 j) := by
        rw [Nat.mul_mod_mod, Nat.pow_succ]; congr 1; ac_rfl
      rw [e]
      exact ih (k + 1) (by omega) (by omega)
theorem cS_b (x y : Nat) : -2147483648 ≤ cS x y ∧ cS x y < 2147483648 := by
  rcases cS_3 x y with h | h | h <;> rw [h] <;> decide
theorem Y_rem_ok {st : ASt} (hI : Inv st) (a1 a2 a3 : Int32) : f_Y_remainder st.2.2.1 st.2.2.2.1 st.2.2.2.2 (yO st) (yN st) (yB st) a1 a2 a3 = some (YR (A_rem st a1 a2 a3)) := by
  unfold f_Y_remainder A_rem
  by_cases h1 : okr a1
  · rw [out_t h1, Option.bind_some, if_pos rfl]
    by_cases h2 : okr a2
    · rw [out_t h2, Option.bind_some, if_pos rfl]
      by_cases h3 : okr a3
      · rw [out_t h3, Option.bind_some, if_pos rfl]
        obtain ⟨d, hd, rfl⟩ := okr_nI h1
        obtain ⟨i, hi, rfl⟩ := okr_nI h2
        obtain ⟨j, hj, rfl⟩ := okr_nI h3
        have fi := od_facts (hI i).1
        have fj := od_facts (hI j).1
        simp only [if_neg (in8 hi), if_neg (in8 hj)]
        simp only [ix, cl8 hi, cl8 hj, cl8 hd]
        rw [show yO st j = lN (od (st.2.1 j)) from rfl, show yO st i = lN (od (st.2.1 i)) from rfl, show yN st j = iI (ez (st.2.1 j)) from rfl, show yN st i = iI (ez (st.2.1 i)) from rfl, show yB st i = bI (st.1 i) from rfl]
        by_cases v2 : st.2.1 j = 0
        · rw [if_pos ((c0_eq (by omega)).mpr (fj.2.2.2.2.1.mpr v2)), if_neg (show ¬ rem_in st (nI d) (nI i) (nI j) from fun q => by have := q.2.2.2.1; simp only [ix, cl8 hj] at this; exact this v2)]
        · have o2 : od (st.2.1 j) ≠ 0 := fun q => v2 (fj.2.2.2.2.1.mp q)
          have C60 := cmpS_ok hI hi hj (n := 60) (by decide)
          have C0 := cmpS_ok hI hi hj (n := 0) (by decide)
          rw [Nat.pow_zero, Nat.mul_one, show iI ((0 : Nat) : Int) = (0 : Int32) from rfl] at C0
          rw [show iI ((60 : Nat) : Int) = (60 : Int32) from rfl] at C60
          rw [if_neg (fun q => o2 ((c0_eq (by omega)).mp q)), C60, Option.bind_some, C0, Option.bind_some]
          by_cases f60 : st.2.1 j * 2 ^ 60 ≤ st.2.1 i
          · have hfar := far_t f60
            have hc : 0 ≤ cS (st.2.1 i) (st.2.1 j * 2 ^ 60) := by
              rcases Nat.lt_or_eq_of_le f60 with q | q
              · rw [cS_gt q]; decide
              · rw [cS_eq q.symm]; decide
            clear f60
            rw [if_neg (fun q => absurd ((iI_lt0 (cS_b _ _).1 (cS_b _ _).2).mp q) (Int.not_lt.mpr hc)), if_neg (show ¬ rem_in st (nI d) (nI i) (nI j) from fun q => by have := q.2.2.2.2; simp only [ix, cl8 hi, cl8 hj] at this; rw [hfar] at this; exact absurd this (by decide))]
          · have hfar := far_f f60
            have hc : cS (st.2.1 i) (st.2.1 j * 2 ^ 60) < 0 := by rw [cS_lt (Nat.lt_of_not_le f60)]; decide
            clear f60
            rw [if_pos ((iI_lt0 (cS_b _ _).1 (cS_b _ _).2).mpr hc), if_pos (show rem_in st (nI d) (nI i) (nI j) from ⟨h1, h2, h3, by simp only [ix, cl8 hj]; exact v2, by simp only [ix, cl8 hi, cl8 hj]; exact hfar⟩)]
            clear hc hfar
            have hz : zrem st i j = if st.1 i = true then -((st.2.1 i % st.2.1 j : Nat) : Int) else ((st.2.1 i % st.2.1 j : Nat) : Int) := rfl
            by_cases lt : st.2.1 i < st.2.1 j
            · have F := fin_Y (st := st) hd (ng := st.1 i) (m := od (st.2.1 i)) (e := ez (st.2.1 i)) (c := 0) (by omega) (by omega) (by omega) (Or.inr (Or.inl rfl))
              rw [show iI 0 = (0 : Int32) from rfl] at F
              rw [if_neg (fun q => by have := (iI_ge0 (cS_b _ _).1 (cS_b _ _).2).mp q; rw [cS_lt lt] at this; exact absurd this (by decide)), F, Option.bind_some]
              rw [Nat.mod_eq_of_lt lt] at hz
              rw [gop_zop (z := zrem st i j) fi.1 (by rw [fi.2.1]; exact hz)]
            · have hge : ¬ cS (st.2.1 i) (st.2.1 j) < 0 := by
                rcases Nat.lt_or_eq_of_le (Nat.le_of_not_lt lt) with q | q
                · rw [cS_gt q]; decide
                · rw [cS_eq q.symm]; decide
              have v1 : st.2.1 i ≠ 0 := by omega
              have o1 : od (st.2.1 i) ≠ 0 := fun q => v1 (fi.2.2.2.2.1.mp q)
              rw [if_pos ((iI_ge0 (cS_b _ _).1 (cS_b _ _).2).mpr (Int.not_lt.mp hge)), iI_sub]
              obtain ⟨-, gi, wi, ti⟩ := fi.2.2.2.2.2 v1
              obtain ⟨-, gj, wj, tj⟩ := fj.2.2.2.2.2 v2
              have bi : bl (od (st.2.1 i)) ≤ 53 := bl_le_iff.mpr fi.1
              have bj0 := bl_pos o2
              have hbl : bl (st.2.1 j) ≤ bl (st.2.1 i) := Nat.le_of_not_lt (fun q => lt (bl_cmp q))
              have vi := fi.2.1
              have vj := fj.2.1
              unfold val at vi vj
              by_cases up : 0 ≤ ez (st.2.1 i) - ez (st.2.1 j)
              · rw [if_pos ((iI_ge0 (by omega) (by omega)).mpr up), if_neg (fun q => o2 ((lN_e0 (by omega)).mp q)), pk_lRem (by omega) (by omega) (by omega)]
                obtain ⟨U, hU⟩ : ∃ U : Nat, ez (st.2.1 i) - ez (st.2.1 j) = U := ⟨(ez (st.2.1 i) - ez (st.2.1 j)).toNat, by omega⟩
                have L := rm_154 (st := st) (d := d) (i := i) (j := j) (a := od (st.2.1 i)) (U := U) hd hi hj o2 fj.1 (by omega) (by omega) 1000 0 (by omega) (by omega)
                rw [Nat.pow_zero, Nat.mul_one, show nI 0 = (0 : Int32) from rfl] at L
                rw [hU, iI_nI, L]
                have hm := Nat.mod_lt (od (st.2.1 i) * 2 ^ U) (Nat.pos_of_ne_zero o2)
                rw [gop_zop (z := zrem st i j) (by omega)]
                rw [hz]
                have e : st.2.1 i % st.2.1 j = val (od (st.2.1 i) * 2 ^ U % od (st.2.1 j)) (ez (st.2.1 j)) := by
                  unfold val
                  rw [← Nat.mul_mod_mul_right, vj, Nat.mul_assoc, ← Nat.pow_add, show U + (ez (st.2.1 j) + 2000).toNat = (ez (st.2.1 i) + 2000).toNat by omega, vi]
                rw [e]
              · obtain ⟨U, hU⟩ : ∃ U : Nat, -(ez (st.2.1 i) - ez (st.2.1 j)) = U := ⟨(-(ez (st.2.1 i) - ez (st.2.1 j))).toNat, by omega⟩
                have hob : od (st.2.1 j) * 2 ^ U < 2 ^ 62 := bl_le_iff.mp (by rw [bl_mul _ _ o2]; omega)
                have hob0 : 0 < od (st.2.1 j) * 2 ^ U := Nat.mul_pos (Nat.pos_of_ne_zero o2) (Nat.two_pow_pos U)
                rw [if_neg (fun q => up ((iI_ge0 (by omega) (by omega)).mp q)), iI_neg, hU, jshl_i _ (by omega) (by omega), Int.toNat_natCast, if_neg (fun q => by have := (lN_e0 (by omega)).mp q; omega), pk_lRem (by omega) hob0 (by omega)]
                have hm := Nat.mod_le (od (st.2.1 i)) (od (st.2.1 j) * 2 ^ U)
                have F := fin_Y (st := st) hd (ng := st.1 i) (m := od (st.2.1 i) % (od (st.2.1 j) * 2 ^ U)) (e := ez (st.2.1 i)) (c := 0) (by omega) (by omega) (by omega) (Or.inr (Or.inl rfl))
                rw [show iI 0 = (0 : Int32) from rfl] at F
                rw [F, Option.bind_some, gop_zop (z := zrem st i j) (by omega)]
                rw [hz]
                have e : st.2.1 i % st.2.1 j = val (od (st.2.1 i) % (od (st.2.1 j) * 2 ^ U)) (ez (st.2.1 i)) := by
                  unfold val
                  rw [← Nat.mul_mod_mul_right, vi, Nat.mul_assoc, ← Nat.pow_add, show U + (ez (st.2.1 i) + 2000).toNat = (ez (st.2.1 j) + 2000).toNat by omega, vj]
                rw [e]
      · rw [out_f h3, Option.bind_some, if_neg (by decide), if_neg (show ¬ rem_in st a1 a2 a3 from fun q => h3 q.2.2.1)]
    · rw [out_f h2, Option.bind_some, if_neg (by decide), if_neg (show ¬ rem_in st a1 a2 a3 from fun q => h2 q.2.1)]
  · rw [out_f h1, Option.bind_some, if_neg (by decide), if_neg (show ¬ rem_in st a1 a2 a3 from fun q => h1 q.1)]
