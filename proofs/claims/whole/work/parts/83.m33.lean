/-! PURE: Y's root -/
theorem tdv (e : Int) (h1 : -100000 < e) (h2 : e < 100000) : (iI e - iI e / (2 : Int32) * (2 : Int32) = 0) ↔ e % 2 = 0 := by
  have hb := Int.tmod_def e 2
  have h3 : e.tmod 2 = 0 ↔ e % 2 = 0 := by
    constructor
    · intro q; have := Int.dvd_of_tmod_eq_zero q; omega
    · intro q; exact Int.tmod_eq_zero_of_dvd (by omega)
  have hq : iI e / (2 : Int32) = iI (e.tdiv 2) := by
    rw [← Int32.toInt_inj, Int32.toInt_div_of_ne_right _ _ (by decide), iI_t (by omega) (by omega)]
    have hm : -2 < e.tmod 2 ∧ e.tmod 2 < 2 := by
      have := Int.tmod_lt_of_pos e (b := 2) (by decide)
      have := Int.lt_tmod_of_pos e (b := 2) (by decide)
      omega
    rw [iI_t (by omega) (by omega)]; rfl
  rw [hq, show (2 : Int32) = iI 2 from rfl, iI_mul, iI_sub]
  have hm : -2 < e.tmod 2 ∧ e.tmod 2 < 2 := by
    have := Int.tmod_lt_of_pos e (b := 2) (by decide)
    have := Int.lt_tmod_of_pos e (b := 2) (by decide)
    omega
  rw [iI_eq0 (by omega) (by omega), ← h3]
  omega
theorem rt_157 {st : ASt} (K : Int32 → Int32 → Int64 → Int32 → Int64 → Int32 → Int32 → Int32 → Int32 → Int32 → Int64 → Int32 → Int32 → (Nat → Int64) → (Nat → Int32) → (Nat → Int32) → Option (Int32 × Int32 × Int32 × Int32 × Int64 × Int32 × Int32 × (Nat → Int64) × (Nat → Int32) × (Nat → Int32))) {t T L1 L2 : Nat} (hT : T < 2 ^ 58) (hL : L2 + L1 < 2 ^ 62) (ht : t < 100) (x1 x3 : Int32) (x4 : Int64) (x6 x10 lo ie ra te re : Int32) (N B : Nat → Int32) : f_Y_root_157 K x1 x3 x4 x6 (nI t) x10 (lN L1) (lN L2) lo ie ra (lN T) te re (yO st) N B = K x1 x3 x4 x6 (lN (if 4 * T + 1 ≤ L2 + L1 then L2 + L1 - (4 * T + 1) else L2 + L1)) (nI (if 0 < t ∨ (if 4 * T + 1 ≤ L2 + L1 then 1 else 0) = 1 then t + 1 else t)) x10 lo ie ra (lN (2 * T + if 4 * T + 1 ≤ L2 + L1 then 1 else 0)) te re (yO st) N B := by
  unfold f_Y_root_157 f_Y_root_185 f_Y_root_199 f_Y_root_218
  rw [lN_add, show (2 : Int64) = lN 2 from rfl, show (4 : Int64) = lN 4 from rfl, show (1 : Int64) = lN 1 from rfl, lN_mul, lN_mul, lN_add, nI_1]
  simp only [if_neg n10, if_true]
  by_cases h : 4 * T + 1 ≤ L2 + L1
  · rw [if_neg (fun q => by have := (cN_lt (by omega) (by omega)).mp q; omega), if_pos h, if_pos h, if_pos (Or.inr rfl), lNsub h, show (1 : Int32).toInt64 = lN 1 from rfl, lN_add]
    split <;> rfl
  · rw [if_pos ((cN_lt (by omega) (by omega)).mpr (by omega)), if_neg h, if_neg h, show (0 : Int32).toInt64 = lN 0 from rfl, lN_add]
    by_cases t0 : 0 < t
    · rw [if_pos ((n0_lt (by omega)).mpr t0), if_pos (Or.inl t0)]
    · rw [if_neg (fun q => t0 ((n0_lt (by omega)).mp q)), if_neg (fun q => by rcases q with q | q; exact t0 q; exact absurd q (by decide))]
theorem rt_114 {st : ASt} {d m : Nat} {e : Int} (m0 : m ≠ 0) (m54 : m < 2 ^ 54) (a3 t2 t3 : Int32) : ∀ (n s T l : Nat), s ≤ 100 → 100 - s < n → T * T + l = pfx m s → l ≤ 2 * T → bl T ≤ 58 → ∃ s' T' l', s' ≤ 100 ∧ T' * T' + l' = pfx m s' ∧ l' ≤ 2 * T' ∧ bl T' = 58 ∧ f_Y_root_114 n (nI d) a3 (lN m) (iI e) (lN l) (nI (bl T)) (iI (27 - s)) st.2.2.1 st.2.2.2.1 st.2.2.2.2 (lN T) t2 t3 (yO st) (yN st) (yB st) = f_Y_root_239 (nI d) a3 (iI e) (lN l') (iI (27 - s')) st.2.2.1 st.2.2.2.1 st.2.2.2.2 (lN T') t2 t3 (yO st) (yN st) (yB st) := by
  intro n
  induction n with
  | zero => intro s T l _ h; omega
  | succ n ih =>
    intro s T l hs hn hp hl h58
    rw [f_Y_root_114, if_neg (fun q => m0 ((c0_le (by omega)).mp q))]
    by_cases e58 : bl T = 58
    · rw [if_pos (by rw [e58]; decide)]
      exact ⟨s, T, l, hs, hp, hl, e58, rfl⟩
    · have hT : T < 2 ^ 57 := bl_le_iff.mp (by omega)
      have s100 : s < 100 := by
        apply Nat.lt_of_not_le; intro q
        have h1 : (T + 1) * (T + 1) ≤ 2 ^ 57 * 2 ^ 57 := sq_mono (show T + 1 ≤ 2 ^ 57 from hT)
        have h2 : (T + 1) * (T + 1) = T * T + 2 * T + 1 := by rw [Nat.add_mul, Nat.mul_add]; omega
        have h4 : 2 ^ 57 * 2 ^ 57 ≤ pfx m s := by
          unfold pfx
          rw [Nat.le_div_iff_mul_le (Nat.pow_pos (by decide)), pow4, pow4, ← Nat.pow_add, ← Nat.pow_add]
          calc (2 : Nat) ^ (57 + 57 + 2 * 27) ≤ 2 ^ (2 * s) := pow_mono (by omega)
            _ ≤ m * 2 ^ (2 * s) := Nat.le_mul_of_pos_left _ (Nat.pos_of_ne_zero m0)
        generalize T * T = T2 at *
        generalize 2 ^ 57 * 2 ^ 57 = R at *
        omega
      have ps := pfx_s m s
      have key : ∀ dg, dg < 4 → pfx m (s + 1) = 4 * pfx m s + dg → ∃ s' T' l', s' ≤ 100 ∧ T' * T' + l' = pfx m s' ∧ l' ≤ 2 * T' ∧ bl T' = 58 ∧ f_Y_root_157 (f_Y_root_114 n) (nI d) a3 (lN m) (iI e) (nI (bl T)) (iI (27 - s + -1)) (lN dg) (lN (4 * l)) st.2.2.1 st.2.2.2.1 st.2.2.2.2 (lN T) t2 t3 (yO st) (yN st) (yB st) = f_Y_root_239 (nI d) a3 (iI e) (lN l') (iI (27 - s')) st.2.2.1 st.2.2.2.1 st.2.2.2.2 (lN T') t2 t3 (yO st) (yN st) (yB st) := by
        intro dg hdg hq
        rw [rt_157 _ (by omega) (by omega) (by omega)]
        obtain ⟨r1, r2⟩ := hr_step hl hdg
        have hbl := bl_2 (T := T) (c := if 4 * T + 1 ≤ 4 * l + dg then 1 else 0) (by split <;> decide)
        rw [← hbl, show (27 : Int) - (s : Int) + -1 = 27 - ((s + 1 : Nat) : Int) by omega]
        rw [← hp] at hq
        refine ih (s + 1) _ _ (by omega) (by omega) ?_ ?_ ?_
        · rw [hq]
          by_cases c : 4 * T + 1 ≤ 4 * l + dg
          · rw [if_pos c, if_pos c]; exact (r2 c).1
          · rw [if_neg c, if_neg c]; exact (r1 (by omega)).1
        · by_cases c : 4 * T + 1 ≤ 4 * l + dg
          · rw [if_pos c, if_pos c]; exact (r2 c).2
          · rw [if_neg c, if_neg c]; exact (r1 (by omega)).2
        · have h59 := bl_2le (T := T) (c := if 4 * T + 1 ≤ 4 * l + dg then 1 else 0) (by split <;> decide)
          omega
      rw [if_neg (fun q => by have := (nI_leI (a := 58) (by decide) (by omega)).mp q; omega), show (-1 : Int32) = iI (-1) by decide, iI_add, show (4 : Int64) = lN 4 from rfl, lN_mul]
      by_cases c : s ≤ 26
      · rw [if_pos c] at ps
        rw [if_neg (fun q => by have := (iI_lt0 (by omega) (by omega)).mp q; omega), show (2 : Int32) = iI 2 from rfl, iI_mul, jshr_i (by omega) (by omega) (by omega), show (3 : Int64) = lN (2 ^ 2 - 1) from rfl, wb_mask (Nat.lt_of_le_of_lt (Nat.div_le_self _ _) (by omega)) (by decide), show ((2 : Int) * (27 - s + -1)).toNat = 2 * (26 - s) by omega, ← pow4]
        exact key _ (Nat.mod_lt _ (by decide)) ps
      · rw [if_neg c] at ps
        rw [if_pos ((iI_lt0 (by omega) (by omega)).mpr (by omega)), show (0 : Int64) = lN 0 from rfl]
        exact key 0 (by omega) ps
theorem rt_rep {v m s T l : Nat} {h : Int} (hv : vok v) (v0 : v ≠ 0) (hm : m = od v * 2 ^ (ez v % 2).toNat) (hh : 2 * h = ez v - ez v % 2) (hs : s ≤ 100) (hp : T * T + l = pfx m s) (hl : l ≤ 2 * T) (hb : bl T = 58) : Rep (rN v) (rS v) T (h + (27 - s)) (decide (l ≠ 0)) := by
  have fv := od_facts hv
  have a := fv.2.1
  unfold val at a
  have m54 : m < 2 ^ 54 := by
    have : (2 : Nat) ^ (ez v % 2).toNat ≤ 2 ^ 1 := pow_mono (by omega)
    rw [hm]
    calc od v * 2 ^ (ez v % 2).toNat ≤ od v * 2 ^ 1 := Nat.mul_le_mul_left _ this
      _ < 2 ^ 54 := by have := fv.1; omega
  have hT : 2 ^ 57 ≤ T := bl_lt_iff.mp (by omega)
  have s27 : 27 ≤ s := by
    apply Nat.le_of_not_lt; intro q
    have h1 : pfx m s ≤ m := by
      unfold pfx
      apply Nat.div_le_of_le_mul
      rw [Nat.mul_comm]
      exact Nat.mul_le_mul_right _ (Nat.pow_le_pow_right (by decide) (by omega))
    have h2 := sq_mono hT
    have h3 : (2 : Nat) ^ 54 ≤ 2 ^ 57 * 2 ^ 57 := by decide
    generalize 2 ^ 57 * 2 ^ 57 = R at *
    generalize T * T = T2 at *
    omega
  have hP : pfx m s = m * 2 ^ (2 * (s - 27)) := by
    unfold pfx
    rw [show s = (s - 27) + 27 by omega, Nat.pow_add, ← Nat.mul_assoc, Nat.mul_div_cancel _ (Nat.pow_pos (by decide)), pow4, show s - 27 + 27 - 27 = s - 27 by omega]
  obtain ⟨q, hq⟩ : ∃ q : Nat, (q : Int) = h + (27 - s) + 2000 := ⟨(h + (27 - s) + 2000).toNat, by omega⟩
  have e : v * 2 ^ 2000 = pfx m s * (2 ^ q * 2 ^ q) := by
    rw [hP, hm]
    conv => lhs; rw [← a]
    rw [Nat.mul_assoc, Nat.mul_assoc, Nat.mul_assoc, ← Nat.pow_add, ← Nat.pow_add, ← Nat.pow_add, ← Nat.pow_add, show (ez v + 2000).toNat + 2000 = (ez v % 2).toNat + (2 * (s - 27) + (q + q)) by omega]
  have hi : isq (pfx m s) = T := by
    refine isq_eq (by omega) ?_
    rw [Nat.add_mul, Nat.mul_add]; omega
  obtain ⟨r1, r2⟩ := isq_rep (pfx m s) q
  rw [← e, hi] at r1 r2
  refine ⟨q, hq, r1.symm, ?_⟩
  unfold rN rS
  rw [← r2, decide_eq_decide, ← hp]
  omega
theorem rt_239 {st : ASt} {d i T l : Nat} {h k : Int} (hd : d < 8) (hT : T < 2 ^ 60) (hl : l < 2 ^ 63) (h1 : -1000 < h) (h2 : h < 1000) (k1 : -500 < k) (k2 : k < 500) (a3 t2 t3 : Int32) (hng : st.1 i = false) (hR : Rep (rN (st.2.1 i)) (rS (st.2.1 i)) T (h + k) (decide (l ≠ 0))) (hs : (rS (st.2.1 i) = false ∧ l = 0) ∨ 53 < bl T) {g : Int32 × ASt} (hg : g = aop st d (zz st i).sign (rN (st.2.1 i)) (rS (st.2.1 i)) (bitsOf a3)) : ∃ (j1 : Int64) (j2 j3 : Int32), f_Y_root_239 (nI d) a3 (iI (2 * h)) (lN l) (iI k) st.2.2.1 st.2.2.2.1 st.2.2.2.2 (lN T) t2 t3 (yO st) (yN st) (yB st) = some (YT g j1 j2 j3) := by
  unfold f_Y_root_239
  have R := roundA (st := st) hd (ng := false) (P := bitsOf a3) (bitsOf_in a3) (by omega) (by omega) (by omega) hR (by
    rcases hs with ⟨q1, q2⟩ | q
    · exact Or.inl ⟨q1, decide_eq_false (fun c => c q2)⟩
    · exact Or.inr q) (sg := (zz st i).sign) (by
    rcases sgn_ng (st := st) i with q | ⟨q1, q2⟩
    · rw [hng] at q; exact Or.inl q
    · refine Or.inr ⟨q1, ?_, ?_⟩
      · unfold rN; rw [q2, Nat.zero_mul]; rfl
      · unfold rS; rw [q2, Nat.zero_mul]; rfl)
  rw [← hg, show bI false = (0 : Int32) from rfl] at R
  by_cases l0 : l = 0
  · rw [if_pos ((c0_le hl).mpr l0)]
    rw [decide_eq_false (fun c => c l0), show bI false = (0 : Int32) from rfl] at R
    unfold f_Y_root_252
    rw [if_pos (Or.inl rfl), size_Y, Option.bind_some, half_i h (by omega) (by omega), iI_add, R, Option.bind_some]
    exact ⟨_, _, _, rfl⟩
  · rw [if_neg (fun q => l0 ((c0_le hl).mp q))]
    rw [decide_eq_true l0, show bI true = (1 : Int32) from rfl] at R
    unfold f_Y_root_252
    rw [if_pos (Or.inr rfl), size_Y, Option.bind_some, half_i h (by omega) (by omega), iI_add, R, Option.bind_some]
    exact ⟨_, _, _, rfl⟩
theorem rt_37 {st : ASt} (hI : Inv st) {d i : Nat} (hd : d < 8) (hi : i < 8) (hng : st.1 i = false) (t1 : Int64) (a3 t2 t3 : Int32) {g : Int32 × ASt} (hg : g = aop st d (zz st i).sign (rN (st.2.1 i)) (rS (st.2.1 i)) (bitsOf a3)) : ∃ (j1 : Int64) (j2 j3 : Int32), f_Y_root_37 (nI d) (nI i) a3 st.2.2.1 st.2.2.2.1 st.2.2.2.2 t1 t2 t3 (yO st) (yN st) (yB st) = some (YT g j1 j2 j3) := by
  have fv := od_facts (hI i).1
  have key : ∀ (m : Nat) (h : Int), m = od (st.2.1 i) * 2 ^ (ez (st.2.1 i) % 2).toNat → 2 * h = ez (st.2.1 i) - ez (st.2.1 i) % 2 → ∃ (j1 : Int64) (j2 j3 : Int32), f_Y_root_114 1000 (nI d) a3 (lN m) (iI (2 * h)) 0 0 27 st.2.2.1 st.2.2.2.1 st.2.2.2.2 0 t2 t3 (yO st) (yN st) (yB st) = some (YT g j1 j2 j3) := by
    intro m h hm hh
    by_cases v0 : st.2.1 i = 0
    · have o0 := fv.2.2.2.2.1.mpr v0
      have m0 : m = 0 := by rw [hm, o0, Nat.zero_mul]
      have E : f_Y_root_114 1000 (nI d) a3 (lN m) (iI (2 * h)) 0 0 27 st.2.2.1 st.2.2.2.1 st.2.2.2.2 0 t2 t3 (yO st) (yN st) (yB st) = f_Y_root_239 (nI d) a3 (iI (2 * h)) 0 27 st.2.2.1 st.2.2.2.1 st.2.2.2.2 0 t2 t3 (yO st) (yN st) (yB st) := by
        rw [show (1000 : Nat) = 999 + 1 from rfl, f_Y_root_114, if_pos ((c0_le (by omega)).mpr m0)]
      rw [E]
      have n0 : rN (st.2.1 i) = 0 := by unfold rN; rw [v0, Nat.zero_mul]; rfl
      have s0 : rS (st.2.1 i) = false := by unfold rS; rw [v0, Nat.zero_mul]; rfl
      exact rt_239 (T := 0) (l := 0) (k := 27) hd (by decide) (by decide) (by omega) (by omega) (by decide) (by decide) a3 t2 t3 hng ⟨(h + 27 + 2000).toNat, by omega, by rw [n0, Nat.zero_div], by rw [n0, s0, Nat.zero_mod]; rfl⟩ (Or.inl ⟨s0, rfl⟩) hg
    · have o0 : od (st.2.1 i) ≠ 0 := fun z => v0 (fv.2.2.2.2.1.mp z)
      have m0 : m ≠ 0 := by
        rw [hm]; intro z
        have := Nat.two_pow_pos (ez (st.2.1 i) % 2).toNat
        rcases Nat.mul_eq_zero.mp z with z | z
        · exact o0 z
        · omega
      have m54 : m < 2 ^ 54 := by
        have : (2 : Nat) ^ (ez (st.2.1 i) % 2).toNat ≤ 2 ^ 1 := pow_mono (by omega)
        rw [hm]
        calc od (st.2.1 i) * 2 ^ (ez (st.2.1 i) % 2).toNat ≤ od (st.2.1 i) * 2 ^ 1 := Nat.mul_le_mul_left _ this
          _ < 2 ^ 54 := by have := fv.1; omega
      obtain ⟨s', T', l', hs', hp', hl', hb', E⟩ := rt_114 (st := st) (d := d) (e := 2 * h) m0 m54 a3 t2 t3 1000 0 0 0 (by omega) (by omega) (by rw [pfx_0 m54]) (by omega) (by decide)
      rw [show lN 0 = (0 : Int64) from rfl, show iI (27 - ((0 : Nat) : Int)) = (27 : Int32) from rfl, show nI (bl 0) = (0 : Int32) from rfl] at E
      rw [E]
      have hT : T' < 2 ^ 58 := bl_le_iff.mp (by omega)
      exact rt_239 hd (by omega) (by omega) (by omega) (by omega) (by omega) (by omega) a3 t2 t3 hng (rt_rep (hI i).1 v0 hm hh hs' hp' hl' hb') (Or.inr (by omega)) hg
  unfold f_Y_root_37 f_Y_root_67
  simp only [if_neg (in8 hi)]
  simp only [cl8 hi]
  rw [show yO st i = lN (od (st.2.1 i)) from rfl, show yN st i = iI (ez (st.2.1 i)) from rfl]
  by_cases ev : ez (st.2.1 i) % 2 = 0
  · have t := (tdv (ez (st.2.1 i)) (by omega) (by omega)).mpr ev
    rw [if_pos t, if_pos t]
    have K := key (od (st.2.1 i)) (ez (st.2.1 i) / 2) (by rw [ev]; exact (Nat.mul_one _).symm) (by omega)
    rw [show 2 * (ez (st.2.1 i) / 2) = ez (st.2.1 i) by omega] at K
    exact K
  · have t := fun q => ev ((tdv (ez (st.2.1 i)) (by omega) (by omega)).mp q)
    have ev1 : ez (st.2.1 i) % 2 = 1 := by omega
    rw [if_neg t, if_neg t, show (2 : Int64) = lN 2 from rfl, lN_mul, show (1 : Int32) = iI 1 from rfl, iI_sub]
    have K := key (2 * od (st.2.1 i)) (ez (st.2.1 i) / 2) (by rw [ev1]; exact Nat.mul_comm _ _) (by omega)
    rw [show 2 * (ez (st.2.1 i) / 2) = ez (st.2.1 i) - 1 by omega] at K
    exact K
theorem Y_root_ok {st : ASt} (hI : Inv st) (t1 : Int64) (t2 t3 a1 a2 a3 : Int32) : ∃ (j1 : Int64) (j2 j3 : Int32), f_Y_root st.2.2.1 st.2.2.2.1 st.2.2.2.2 t1 t2 t3 (yO st) (yN st) (yB st) a1 a2 a3 = some ((A_root st a1 a2 a3).1, (A_root st a1 a2 a3).2.2.2.1, (A_root st a1 a2 a3).2.2.2.2.1, (A_root st a1 a2 a3).2.2.2.2.2, j1, j2, j3, yO (A_root st a1 a2 a3).2, yN (A_root st a1 a2 a3).2, yB (A_root st a1 a2 a3).2) := by
  unfold f_Y_root A_root
  by_cases h1 : okr a1
  · rw [out_t h1, Option.bind_some, if_pos rfl]
    by_cases h2 : okr a2
    · rw [out_t h2, Option.bind_some, if_pos rfl]
      obtain ⟨d, hd, rfl⟩ := okr_nI h1
      obtain ⟨i, hi, rfl⟩ := okr_nI h2
      rw [if_neg (in8 hi), cl8 hi, show yB st i = bI (st.1 i) from rfl]
      by_cases ng : st.1 i = false
      · have ng' : st.1 (ix (nI i)) = false := by simp only [ix, cl8 hi]; exact ng
        rw [if_pos ((bI_0 _).mpr ng)]
        by_cases h3 : a3 = 0
        · rw [if_pos h3, if_pos (show root_in st (nI d) (nI i) a3 from ⟨⟨h1, h2, h2, Or.inl h3⟩, ng'⟩)]
          simp only [ix, cl8 hi, cl8 hd]
          exact rt_37 hI hd hi ng t1 a3 t2 t3 rfl
        · rw [if_neg h3, nar_Y hI hi, Option.bind_some]
          by_cases hn : nrw (st.2.1 i)
          · have hn' : nrw (st.2.1 (ix (nI i))) := by simp only [ix, cl8 hi]; exact hn
            rw [decide_eq_true hn, if_neg (show ¬ bI true = 0 by decide), if_pos (show root_in st (nI d) (nI i) a3 from ⟨⟨h1, h2, h2, Or.inr ⟨hn', hn'⟩⟩, ng'⟩)]
            simp only [ix, cl8 hi, cl8 hd]
            exact rt_37 hI hd hi ng t1 a3 t2 t3 rfl
          · rw [decide_eq_false hn, if_pos (show bI false = 0 from rfl), if_neg (show ¬ root_in st (nI d) (nI i) a3 from fun q => by
              rcases q.1.2.2.2 with r | r
              · exact h3 r
              · have := r.1
                simp only [ix, cl8 hi] at this
                exact hn this)]
            exact ⟨_, _, _, rfl⟩
      · rw [if_neg (fun q => ng ((bI_0 _).mp q)), if_neg (show ¬ root_in st (nI d) (nI i) a3 from fun q => by have := q.2; simp only [ix, cl8 hi] at this; exact ng this)]
        exact ⟨_, _, _, rfl⟩
    · rw [out_f h2, Option.bind_some, if_neg (by decide), if_neg (fun q => h2 q.1.2.1)]
      exact ⟨_, _, _, rfl⟩
  · rw [out_f h1, Option.bind_some, if_neg (by decide), if_neg (fun q => h1 q.1.1)]
    exact ⟨_, _, _, rfl⟩
