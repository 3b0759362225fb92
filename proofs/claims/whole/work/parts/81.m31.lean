/-! PURE: Y's addition and fused -/
theorem v320 {v : Nat} (hv : vok v) : ∃ s : Nat, ez v + 320 = s ∧ s < 500 ∧ v = od v * 2 ^ s * 2 ^ 1680 ∧ od v * 2 ^ s < 2 ^ 700 ∧ od v < 2 ^ 53 := by
  have hf := od_facts hv
  obtain ⟨s, hs⟩ : ∃ s : Nat, ez v + 320 = s := ⟨(ez v + 320).toNat, by omega⟩
  refine ⟨s, hs, by omega, ?_, ?_, hf.1⟩
  · have h := hf.2.1
    unfold val at h
    rw [Nat.mul_assoc, ← Nat.pow_add, show s + 1680 = (ez v + 2000).toNat by omega, h]
  · refine Nat.lt_of_lt_of_le (Nat.mul_lt_mul_of_pos_right hf.1 (Nat.two_pow_pos s)) ?_
    rw [← Nat.pow_add]; exact pow_mono (by omega)
theorem l700 {a : Nat} (h : a < 2 ^ 700) : a < 2 ^ 839 ∧ 0 + a < 2 ^ 840 := by
  have h1 : 2 ^ 700 ≤ 2 ^ 839 := pow_mono (by omega)
  have h2 : 2 ^ 700 ≤ 2 ^ 840 := pow_mono (by omega)
  generalize 2 ^ 700 = p at *
  generalize 2 ^ 839 = q at *
  generalize 2 ^ 840 = r at *
  omega
theorem zr (n : Bool) (v : Nat) (st : ASt) (j : Nat) (hn : n = st.1 j) (hv : v = st.2.1 j) : (if n = true then -((v : Nat) : Int) else ((v : Nat) : Int)) = zz st j := by subst hn; subst hv; rfl
theorem Y_addn_ok {st : ASt} (hI : Inv st) (tn : Bool) {X Y : Nat} (hX : X < 2 ^ 840) (hY : Y < 2 ^ 840) (t1 : Int64) (t2 t3 a1 a2 a3 a4 : Int32) : ∃ (j1 : Int64) (j2 j3 : Int32) (X' Y' : Nat), X' < 2 ^ 840 ∧ Y' < 2 ^ 840 ∧ f_Y_addition st.2.2.1 st.2.2.2.1 st.2.2.2.2 t1 t2 t3 (yO st) (yN st) (yB st) (lb X) (lb Y) a1 a2 a3 a4 (bI tn) = some (YL (if tk st a1 a2 a3 a4 then zop st (ix a1) (zz st (ix a2) + (if tn = true then -zz st (ix a3) else zz st (ix a3))) (bitsOf a4) else (-1, st)) j1 j2 j3 X' Y') := by
  unfold f_Y_addition
  by_cases h : tk st a1 a2 a3 a4
  · rw [ref_t hI h, Option.bind_some, if_pos rfl, if_pos h, clear_ok hX, Option.bind_some, clear_ok hY, Option.bind_some]
    obtain ⟨h1, h2, h3, -⟩ := h
    obtain ⟨d, hd, rfl⟩ := okr_nI h1
    obtain ⟨i, hi, rfl⟩ := okr_nI h2
    obtain ⟨j, hj, rfl⟩ := okr_nI h3
    simp only [if_neg (in8 hi), if_neg (in8 hj)]
    simp only [ix, cl8 hi, cl8 hj, cl8 hd]
    obtain ⟨s, es, ls, vs, bs, os⟩ := v320 (hI i).1
    obtain ⟨u, eu, lu, vu, bu, ou⟩ := v320 (hI j).1
    rw [show yO st i = lN (od (st.2.1 i)) from rfl, show yN st i = iI (ez (st.2.1 i)) from rfl, show yB st i = bI (st.1 i) from rfl, show yO st j = lN (od (st.2.1 j)) from rfl, show yN st j = iI (ez (st.2.1 j)) from rfl, show yB st j = bI (st.1 j) from rfl, show (320 : Int32) = iI 320 from rfl, iI_add, iI_add, es, eu, iI_nI, iI_nI, addSh_ok (by omega) (by omega) (l700 bs).2, Option.bind_some, addSh_ok (by omega) (by omega) (l700 bu).2, Option.bind_some, Nat.zero_add, Nat.zero_add]
    have S : ∀ sb : Bool, sb = (st.1 j != tn) → ∃ (j1 : Int64) (j2 j3 : Int32) (X' Y' : Nat), X' < 2 ^ 840 ∧ Y' < 2 ^ 840 ∧ f_Y_addition_98 a4 (bI sb) (bI (st.1 i)) (nI d) st.2.2.1 st.2.2.2.1 st.2.2.2.2 t1 t2 t3 (yO st) (yN st) (yB st) (lb (od (st.2.1 i) * 2 ^ s)) (lb (od (st.2.1 j) * 2 ^ u)) = some (YL (zop st d (zz st i + (if tn = true then -zz st j else zz st j)) (bitsOf a4)) j1 j2 j3 X' Y') := by
      intro sb hsb
      obtain ⟨j1, j2, j3, X', Y', hX', hY', E⟩ := sumY_ok (st := st) hd (bitsOf_in a4) (l700 bs).1 (l700 bu).1 (f := st.1 i) (s := sb) (z := zz st i + (if tn = true then -zz st j else zz st j)) (by
        rw [← vs, ← vu, zr (st.1 i) _ st i rfl rfl]
        congr 1
        rw [hsb]; unfold zz
        cases st.1 j <;> cases tn <;> simp) t1 t2 t3
      refine ⟨j1, j2, j3, X', Y', hX', hY', ?_⟩
      unfold f_Y_addition_98
      rw [size_Y, Option.bind_some, E, Option.bind_some]
    by_cases e : st.1 j = tn
    · rw [if_pos ((bI_inj _ _).mpr e)]
      exact S false (by rw [e]; cases tn <;> rfl)
    · rw [if_neg (fun q => e ((bI_inj _ _).mp q))]
      exact S true (by revert e; cases st.1 j <;> cases tn <;> decide)
  · rw [ref_f hI h, Option.bind_some, if_neg (by decide), if_neg h]
    exact ⟨_, _, _, X, Y, hX, hY, rfl⟩
theorem Y_add_ok {st : ASt} (hI : Inv st) {X Y : Nat} (hX : X < 2 ^ 840) (hY : Y < 2 ^ 840) (t1 : Int64) (t2 t3 a1 a2 a3 a4 : Int32) : ∃ (j1 : Int64) (j2 j3 : Int32) (X' Y' : Nat), X' < 2 ^ 840 ∧ Y' < 2 ^ 840 ∧ f_Y_add st.2.2.1 st.2.2.2.1 st.2.2.2.2 t1 t2 t3 (yO st) (yN st) (yB st) (lb X) (lb Y) a1 a2 a3 a4 = some (YL (A_add st a1 a2 a3 a4) j1 j2 j3 X' Y') := by
  obtain ⟨j1, j2, j3, X', Y', hX', hY', E⟩ := Y_addn_ok hI false hX hY t1 t2 t3 a1 a2 a3 a4
  refine ⟨j1, j2, j3, X', Y', hX', hY', ?_⟩
  unfold f_Y_add
  rw [show bI false = (0 : Int32) from rfl] at E
  rw [E, Option.bind_some]
  rfl
theorem Y_sub_ok {st : ASt} (hI : Inv st) {X Y : Nat} (hX : X < 2 ^ 840) (hY : Y < 2 ^ 840) (t1 : Int64) (t2 t3 a1 a2 a3 a4 : Int32) : ∃ (j1 : Int64) (j2 j3 : Int32) (X' Y' : Nat), X' < 2 ^ 840 ∧ Y' < 2 ^ 840 ∧ f_Y_subtract st.2.2.1 st.2.2.2.1 st.2.2.2.2 t1 t2 t3 (yO st) (yN st) (yB st) (lb X) (lb Y) a1 a2 a3 a4 = some (YL (A_sub st a1 a2 a3 a4) j1 j2 j3 X' Y') := by
  obtain ⟨j1, j2, j3, X', Y', hX', hY', E⟩ := Y_addn_ok hI true hX hY t1 t2 t3 a1 a2 a3 a4
  refine ⟨j1, j2, j3, X', Y', hX', hY', ?_⟩
  unfold f_Y_subtract A_sub
  rw [show bI true = (1 : Int32) from rfl, if_pos rfl, ← Int.sub_eq_add_neg] at E
  rw [E, Option.bind_some]
theorem zmul_s {st : ASt} (i j : Nat) : zmul (zz st i) (zz st j) = if (st.1 i != st.1 j) = true then -((st.2.1 i * st.2.1 j / 2 ^ 2000 : Nat) : Int) else ((st.2.1 i * st.2.1 j / 2 ^ 2000 : Nat) : Int) := by
  unfold zmul
  rw [zz_abs, zz_abs, Int.sign_mul, zz_sign, zz_sign]
  unfold sgn
  by_cases h1 : st.2.1 i = 0
  · rw [h1, Nat.zero_mul, Nat.zero_div]; simp
  · by_cases h2 : st.2.1 j = 0
    · rw [h2, Nat.mul_zero, Nat.zero_div]; simp
    · rw [if_neg h1, if_neg h2]
      generalize st.2.1 i * st.2.1 j / 2 ^ 2000 = M
      cases st.1 i <;> cases st.1 j <;> simp
theorem v_prod {v w s u : Nat} (hv : v = od v * 2 ^ s * 2 ^ 1680) (hw : w = od w * 2 ^ u * 2 ^ 1680) (h : 320 ≤ s + u) : v * w / 2 ^ 2000 = od v * od w * 2 ^ (s + u - 320) * 2 ^ 1680 := by
  have e : v * w = od v * od w * 2 ^ (s + u - 320) * 2 ^ 1680 * 2 ^ 2000 := by
    have : v * w = (od v * 2 ^ s * 2 ^ 1680) * (od w * 2 ^ u * 2 ^ 1680) := by rw [← hv, ← hw]
    rw [this]
    have e2 : (2 : Nat) ^ s * 2 ^ 1680 * (2 ^ u * 2 ^ 1680) = 2 ^ (s + u - 320) * 2 ^ 1680 * 2 ^ 2000 := by
      rw [← Nat.pow_add, ← Nat.pow_add, ← Nat.pow_add, ← Nat.pow_add, ← Nat.pow_add, show s + 1680 + (u + 1680) = s + u - 320 + 1680 + 2000 by omega]
    rw [show od v * od w * 2 ^ (s + u - 320) * 2 ^ 1680 * 2 ^ 2000 = od v * od w * (2 ^ (s + u - 320) * 2 ^ 1680 * 2 ^ 2000) by rw [Nat.mul_assoc (od v * od w * 2 ^ (s + u - 320)), Nat.mul_assoc (od v * od w), ← Nat.mul_assoc (2 ^ (s + u - 320))], ← e2]
    generalize 2 ^ s = a
    generalize 2 ^ u = b
    generalize 2 ^ 1680 = c
    ac_rfl
  rw [e, Nat.mul_div_cancel _ (Nat.two_pow_pos _)]
theorem fus80 {st : ASt} {d i j P X Y : Nat} (hd : d < 8) (hi : i < 8) (hj : j < 8) (hP : 1 ≤ P ∧ P ≤ 53) (hX : X < 2 ^ 839) (hY : Y < 2 ^ 839) (hM : st.2.1 i * st.2.1 j / 2 ^ 2000 = X * 2 ^ 1680) {a4 : Int32} {z : Int} (hk : (a4 = -1 ∧ Y = 0 ∧ z = 0) ∨ (∃ k, k < 8 ∧ a4 = nI k ∧ z = zz st k ∧ st.2.1 k = Y * 2 ^ 1680)) (t1 : Int64) (t2 t3 : Int32) : ∃ (j1 : Int64) (j2 j3 : Int32) (X' Y' : Nat), X' < 2 ^ 840 ∧ Y' < 2 ^ 840 ∧ f_Y_fused_80 (nI d) (nI i) (nI j) a4 (iI P) st.2.2.1 st.2.2.2.1 st.2.2.2.2 t1 t2 t3 (yO st) (yN st) (yB st) (lb X) (lb Y) = some (YL (zop st d (zmul (zz st i) (zz st j) + z) P) j1 j2 j3 X' Y') := by
  unfold f_Y_fused_80
  simp only [if_neg (in8 hi), if_neg (in8 hj)]
  simp only [cl8 hi, cl8 hj]
  rw [show yB st i = bI (st.1 i) from rfl, show yB st j = bI (st.1 j) from rfl]
  have S : ∀ sb : Bool, sb = (st.1 i != st.1 j) → ∃ (j1 : Int64) (j2 j3 : Int32) (X' Y' : Nat), X' < 2 ^ 840 ∧ Y' < 2 ^ 840 ∧ f_Y_fused_100 (nI d) a4 (iI P) (bI sb) st.2.2.1 st.2.2.2.1 st.2.2.2.2 t1 t2 t3 (yO st) (yN st) (yB st) (lb X) (lb Y) = some (YL (zop st d (zmul (zz st i) (zz st j) + z) P) j1 j2 j3 X' Y') := by
    intro sb hsb
    unfold f_Y_fused_100
    have hz := zmul_s (st := st) i j
    rw [← hsb, hM] at hz
    rcases hk with ⟨q1, q2, q3⟩ | ⟨k, hk, q1, q2, q3⟩
    · obtain ⟨j1, j2, j3, X', Y', hX', hY', E⟩ := sumY_ok (st := st) hd hP hX hY (f := sb) (s := sb) (z := zmul (zz st i) (zz st j) + z) (by
        rw [hz, q2, q3, Nat.zero_mul]
        generalize X * 2 ^ 1680 = M
        cases sb <;> simp) t1 t2 t3
      refine ⟨j1, j2, j3, X', Y', hX', hY', ?_⟩
      rw [q1, if_pos (by decide), E, Option.bind_some]
    · obtain ⟨j1, j2, j3, X', Y', hX', hY', E⟩ := sumY_ok (st := st) hd hP hX hY (f := sb) (s := st.1 k) (z := zmul (zz st i) (zz st j) + z) (by
        rw [hz, q2, ← q3, zr (st.1 k) _ st k rfl rfl]) t1 t2 t3
      refine ⟨j1, j2, j3, X', Y', hX', hY', ?_⟩
      rw [q1, if_neg (nI_pos (by omega)), if_neg (in8 hk), cl8 hk, show yB st k = bI (st.1 k) from rfl, E, Option.bind_some]
  by_cases e : st.1 i = st.1 j
  · rw [if_pos ((bI_inj _ _).mpr e)]
    exact S false (by rw [e]; cases st.1 j <;> rfl)
  · rw [if_neg (fun q => e ((bI_inj _ _).mp q))]
    exact S true (by revert e; cases st.1 i <;> cases st.1 j <;> decide)
theorem fusY {st : ASt} (hI : Inv st) {d i j P X Y : Nat} (hd : d < 8) (hi : i < 8) (hj : j < 8) (hP : 1 ≤ P ∧ P ≤ 53) (hX : X < 2 ^ 840) (hY : Y < 2 ^ 840) {a4 : Int32} {z : Int} (hk : (a4 = -1 ∧ z = 0) ∨ (∃ k, k < 8 ∧ a4 = nI k ∧ z = zz st k)) (t1 : Int64) (t2 t3 : Int32) : ∃ (j1 : Int64) (j2 j3 : Int32) (X' Y' : Nat), X' < 2 ^ 840 ∧ Y' < 2 ^ 840 ∧ f_Y_fused st.2.2.1 st.2.2.2.1 st.2.2.2.2 t1 t2 t3 (yO st) (yN st) (yB st) (lb X) (lb Y) (nI d) (nI i) (nI j) a4 (iI P) = some (YL (zop st d (zmul (zz st i) (zz st j) + z) P) j1 j2 j3 X' Y') := by
  unfold f_Y_fused
  rw [clear_ok hX, Option.bind_some, clear_ok hY, Option.bind_some]
  simp only [if_neg (in8 hi), if_neg (in8 hj)]
  simp only [cl8 hi, cl8 hj]
  obtain ⟨s, es, ls, vs, bs, os⟩ := v320 (hI i).1
  obtain ⟨u, eu, lu, vu, bu, ou⟩ := v320 (hI j).1
  have fi := od_facts (hI i).1
  have fj := od_facts (hI j).1
  have hsu : 320 ≤ s + u := by omega
  have hM := v_prod vs vu hsu
  have hlt : od (st.2.1 i) * od (st.2.1 j) * 2 ^ (s + u - 320) < 2 ^ 839 := by
    have h1 : od (st.2.1 i) * od (st.2.1 j) < 2 ^ 53 * 2 ^ 53 := Nat.mul_lt_mul'' os ou
    refine Nat.lt_of_lt_of_le (Nat.mul_lt_mul_of_pos_right h1 (Nat.two_pow_pos _)) ?_
    rw [← Nat.pow_add, ← Nat.pow_add]; exact pow_mono (by omega)
  have hlt2 : 0 + od (st.2.1 i) * od (st.2.1 j) * 2 ^ (s + u - 320) < 2 ^ 840 := by
    rw [Nat.zero_add]; exact Nat.lt_of_lt_of_le hlt (pow_mono (by omega))
  rw [show yO st i = lN (od (st.2.1 i)) from rfl, show yN st i = iI (ez (st.2.1 i)) from rfl, show yO st j = lN (od (st.2.1 j)) from rfl, show yN st j = iI (ez (st.2.1 j)) from rfl, show (320 : Int32) = iI 320 from rfl, iI_add, iI_add, show ez (st.2.1 i) + ez (st.2.1 j) + 320 = ((s + u - 320 : Nat) : Int) by omega, iI_nI, addPr_ok (by omega) (by omega) (by omega) hlt2, Option.bind_some, Nat.zero_add]
  rcases hk with ⟨q1, q2⟩ | ⟨k, hk, q1, q2⟩
  · rw [if_pos (by rw [q1]; decide)]
    exact fus80 hd hi hj hP hlt (Nat.two_pow_pos 839) hM (Or.inl ⟨q1, rfl, q2⟩) t1 t2 t3
  · obtain ⟨w, ew, lw, vw, bw, ow⟩ := v320 (hI k).1
    have n0 : ¬ a4 < 0 := by rw [q1]; exact nI_pos (by omega)
    rw [if_neg n0]
    have ni : ¬ (a4 < 0 ∨ 8 ≤ a4.toNatClampNeg) := by rw [q1]; exact in8 hk
    rw [if_neg ni, if_neg ni, show a4.toNatClampNeg = k by rw [q1]; exact cl8 hk, show yO st k = lN (od (st.2.1 k)) from rfl, show yN st k = iI (ez (st.2.1 k)) from rfl, iI_add, ew, iI_nI, addSh_ok (by omega) (by omega) (l700 bw).2, Option.bind_some, Nat.zero_add]
    exact fus80 hd hi hj hP hlt (l700 bw).1 hM (Or.inr ⟨k, hk, q1, q2, vw⟩) t1 t2 t3
theorem Y_mul_ok {st : ASt} (hI : Inv st) {X Y : Nat} (hX : X < 2 ^ 840) (hY : Y < 2 ^ 840) (t1 : Int64) (t2 t3 a1 a2 a3 a4 : Int32) : ∃ (j1 : Int64) (j2 j3 : Int32) (X' Y' : Nat), X' < 2 ^ 840 ∧ Y' < 2 ^ 840 ∧ f_Y_multiply st.2.2.1 st.2.2.2.1 st.2.2.2.2 t1 t2 t3 (yO st) (yN st) (yB st) (lb X) (lb Y) a1 a2 a3 a4 = some (YL (A_mul st a1 a2 a3 a4) j1 j2 j3 X' Y') := by
  unfold f_Y_multiply A_mul
  by_cases h : tk st a1 a2 a3 a4
  · rw [ref_t hI h, Option.bind_some, if_pos rfl, if_pos h, size_Y, Option.bind_some]
    obtain ⟨h1, h2, h3, -⟩ := h
    obtain ⟨d, hd, rfl⟩ := okr_nI h1
    obtain ⟨i, hi, rfl⟩ := okr_nI h2
    obtain ⟨j, hj, rfl⟩ := okr_nI h3
    simp only [ix, cl8 hi, cl8 hj, cl8 hd]
    obtain ⟨j1, j2, j3, X', Y', hX', hY', E⟩ := fusY hI hd hi hj (bitsOf_in a4) hX hY (a4 := -1) (z := 0) (Or.inl ⟨rfl, rfl⟩) t1 t2 t3
    rw [Int.add_zero] at E
    exact ⟨j1, j2, j3, X', Y', hX', hY', by rw [E, Option.bind_some]⟩
  · rw [ref_f hI h, Option.bind_some, if_neg (by decide), if_neg h]
    exact ⟨_, _, _, X, Y, hX, hY, rfl⟩
theorem Y_fuse_ok {st : ASt} (hI : Inv st) {X Y : Nat} (hX : X < 2 ^ 840) (hY : Y < 2 ^ 840) (t1 : Int64) (t2 t3 a1 a2 a3 a4 : Int32) : ∃ (j1 : Int64) (j2 j3 : Int32) (X' Y' : Nat), X' < 2 ^ 840 ∧ Y' < 2 ^ 840 ∧ f_Y_fuse st.2.2.1 st.2.2.2.1 st.2.2.2.2 t1 t2 t3 (yO st) (yN st) (yB st) (lb X) (lb Y) a1 a2 a3 a4 = some (YL (A_fus st a1 a2 a3 a4 0) j1 j2 j3 X' Y') := by
  unfold f_Y_fuse A_fus
  by_cases h : tk st a1 a2 a3 0
  · rw [ref_t hI h, Option.bind_some, if_pos rfl]
    by_cases h4 : okr a4
    · rw [out_t h4, Option.bind_some, if_pos rfl, if_pos (show tk st a1 a2 a3 0 ∧ tk st a1 a2 a4 0 from ⟨h, h.1, h.2.1, h4, Or.inl rfl⟩)]
      obtain ⟨h1, h2, h3, -⟩ := h
      obtain ⟨d, hd, rfl⟩ := okr_nI h1
      obtain ⟨i, hi, rfl⟩ := okr_nI h2
      obtain ⟨j, hj, rfl⟩ := okr_nI h3
      obtain ⟨k, hk, rfl⟩ := okr_nI h4
      simp only [ix, cl8 hi, cl8 hj, cl8 hd, cl8 hk]
      obtain ⟨j1, j2, j3, X', Y', hX', hY', E⟩ := fusY hI hd hi hj (bitsOf_in 0) hX hY (a4 := nI k) (z := zz st k) (Or.inr ⟨k, hk, rfl, rfl⟩) t1 t2 t3
      rw [show iI ((bitsOf 0 : Nat) : Int) = (53 : Int32) by decide] at E
      exact ⟨j1, j2, j3, X', Y', hX', hY', by rw [E, Option.bind_some]⟩
    · rw [out_f h4, Option.bind_some, if_neg (by decide), if_neg (fun q => h4 q.2.2.2.1)]
      exact ⟨_, _, _, X, Y, hX, hY, rfl⟩
  · rw [ref_f hI h, Option.bind_some, if_neg (by decide), if_neg (fun q => h q.1)]
    exact ⟨_, _, _, X, Y, hX, hY, rfl⟩
theorem Y_fuseN_ok {st : ASt} (hI : Inv st) {X Y : Nat} (hX : X < 2 ^ 840) (hY : Y < 2 ^ 840) (t1 : Int64) (t2 t3 a1 a2 a3 a4 : Int32) : ∃ (j1 : Int64) (j2 j3 : Int32) (X' Y' : Nat), X' < 2 ^ 840 ∧ Y' < 2 ^ 840 ∧ f_Y_fuseNarrow st.2.2.1 st.2.2.2.1 st.2.2.2.2 t1 t2 t3 (yO st) (yN st) (yB st) (lb X) (lb Y) a1 a2 a3 a4 = some (YL (A_fus st a1 a2 a3 a4 1) j1 j2 j3 X' Y') := by
  unfold f_Y_fuseNarrow A_fus
  by_cases h : tk st a1 a2 a3 1
  · rw [ref_t hI h, Option.bind_some, if_pos rfl]
    have nn := h.2.2.2
    rcases nn with nn | nn
    · exact absurd nn (by decide)
    by_cases h4 : okr a4
    · rw [out_t h4, Option.bind_some, if_pos rfl]
      have h' := h
      obtain ⟨h1, h2, h3, -⟩ := h'
      obtain ⟨d, hd, rfl⟩ := okr_nI h1
      obtain ⟨i, hi, rfl⟩ := okr_nI h2
      obtain ⟨j, hj, rfl⟩ := okr_nI h3
      obtain ⟨k, hk, rfl⟩ := okr_nI h4
      rw [nar_Y hI hk, Option.bind_some]
      by_cases hn : nrw (st.2.1 k)
      · have hn' : nrw (st.2.1 (ix (nI k))) := by simp only [ix, cl8 hk]; exact hn
        rw [decide_eq_true hn, if_neg (show ¬ bI true = 0 by decide), if_pos (show tk st (nI d) (nI i) (nI j) 1 ∧ tk st (nI d) (nI i) (nI k) 1 from ⟨h, h1, h2, h4, Or.inr ⟨nn.1, hn'⟩⟩)]
        simp only [ix, cl8 hi, cl8 hj, cl8 hd, cl8 hk]
        obtain ⟨j1, j2, j3, X', Y', hX', hY', E⟩ := fusY hI hd hi hj (bitsOf_in 1) hX hY (a4 := nI k) (z := zz st k) (Or.inr ⟨k, hk, rfl, rfl⟩) t1 t2 t3
        rw [show iI ((bitsOf 1 : Nat) : Int) = (24 : Int32) by decide] at E
        exact ⟨j1, j2, j3, X', Y', hX', hY', by rw [E, Option.bind_some]⟩
      · rw [decide_eq_false hn, if_pos (show bI false = 0 from rfl), if_neg (fun q => by
          rcases q.2.2.2.2 with r | r
          · exact absurd r (by decide)
          · have := r.2
            simp only [ix, cl8 hk] at this
            exact hn this)]
        exact ⟨_, _, _, X, Y, hX, hY, rfl⟩
    · rw [out_f h4, Option.bind_some, if_neg (by decide), if_neg (fun q => h4 q.2.2.2.1)]
      exact ⟨_, _, _, X, Y, hX, hY, rfl⟩
  · rw [ref_f hI h, Option.bind_some, if_neg (by decide), if_neg (fun q => h q.1)]
    exact ⟨_, _, _, X, Y, hX, hY, rfl⟩
