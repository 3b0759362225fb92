/-! PURE: a value stored, and X's step -/
def gop (st : ASt) (d : Nat) (ng : Bool) (v : Nat) (c : Int) : Int32 × ASt :=
  if inr v then (0, va_up st.1 d (ng && decide (v ≠ 0)), va_up st.2.1 d v, iI (if ng = true then -c else c), (if c = 0 then st.2.2.2.1 else st.2.2.2.1 + 1), st.2.2.2.2)
  else (-2, st.1, st.2.1, st.2.2.1, st.2.2.2.1, st.2.2.2.2 + 1)
abbrev XR (g : Int32 × ASt) : Int32 × Int32 × Int32 × Int32 × (Nat → Int64) × (Nat → Int32) := (g.1, g.2.2.2.1, g.2.2.2.2.1, g.2.2.2.2.2, xM g.2, xP g.2)
theorem put_g {st : ASt} {d : Nat} (hd : d < 8) {ng : Bool} {n : Nat} {e : Int} (hn : n ≤ 2 ^ 53) (he1 : -1990 ≤ e) (he2 : e < 10000) : f_X_put st.2.2.1 st.2.2.2.1 st.2.2.2.2 (xM st) (xP st) (nI d) (lI (if ng = true then -(n : Int) else n)) (iI e) (0 : Int32) = some (XR (gop st d ng (val n e) 0)) := by
  have h := put_ok (lo := st.2.2.1) (ro := st.2.2.2.1) (rk := st.2.2.2.2) (Mf := xM st) (Pf := xP st) hd (ng := ng) (c := 0) hn he1 he2 (Or.inr (Or.inl rfl))
  rw [show iI 0 = (0 : Int32) from rfl] at h
  rw [h]
  generalize val n e = v
  unfold gop
  by_cases hi : inr v
  · rw [if_pos hi, if_pos hi, if_pos rfl, mz_and ng v, clM_up, clP_up]
    cases ng <;> rfl
  · rw [if_neg hi, if_neg hi]
def stp (v P : Nat) (away : Bool) : Nat :=
  if v = 0 then 2 ^ 1900
  else if away = true then (v / 2 ^ (bl v - P) + 1) * 2 ^ (bl v - P)
  else if v % 2 ^ (bl v - P) ≠ 0 then v / 2 ^ (bl v - P) * 2 ^ (bl v - P)
  else if v / 2 ^ (bl v - P) = 2 ^ (P - 1) then (if bl v = 1901 then 0 else (2 * (v / 2 ^ (bl v - P)) - 1) * 2 ^ (bl v - P - 1))
  else (v / 2 ^ (bl v - P) - 1) * 2 ^ (bl v - P)
def A_step (st : ASt) (a1 a2 : Int32) (up : Bool) (a4 : Int32) : Int32 × ASt :=
  if okr a1 ∧ okr a2 then gop st (ix a1) (if st.2.1 (ix a2) = 0 then !up else st.1 (ix a2)) (stp (st.2.1 (ix a2)) (bitsOf a4) (up != st.1 (ix a2))) 0 else (-1, st)
theorem st182 {st : ASt} {d : Nat} (hd : d < 8) {ng : Bool} {v n : Nat} {e : Int} (hv : vok v) (v0 : v ≠ 0) (hn : n ≤ 2 ^ 53) (he1 : -1990 ≤ e) (he2 : e < 10000) : f_X_step_182 (nI d) (lI (mz ng v)) (lN n) (iI e) st.2.2.1 st.2.2.2.1 st.2.2.2.2 (xM st) (xP st) = some (XR (gop st d ng (val n e) 0)) := by
  have hf := reg_facts hv
  have a := mz_abs ng v
  have big := hf.2.2.2.2.2 v0
  unfold f_X_step_182
  have hz : (0 ≤ lg_cmp (lI (mz ng v)) (0 : Int64)) ↔ 0 ≤ mz ng v := by
    rw [lg_cmp_ge]; exact lI_le (a := 0) (by decide) (by decide) (by omega) (by omega)
  have P := put_g (st := st) hd (ng := ng) hn he1 he2
  cases ng
  · have : 0 ≤ mz false v := by rw [mz_mt]; simp
    rw [if_neg (by decide), lI_lN] at P
    rw [if_pos (hz.mpr this), P, Option.bind_some]
  · have : ¬ 0 ≤ mz true v := by rw [mz_mt]; simp; omega
    rw [if_pos rfl, ← lI_neg, lI_lN] at P
    rw [if_neg (fun q => this (hz.mp q)), P, Option.bind_some]
theorem st_val {v P n : Nat} {e : Int} (he : (e + 2000).toNat = bl v - P) : val n e = n * 2 ^ (bl v - P) := by unfold val; rw [he]
theorem st135 {st : ASt} {d i P : Nat} (hd : d < 8) (hi : i < 8) {n : Nat} {e : Int} (hv : vok (st.2.1 i)) (v0 : st.2.1 i ≠ 0) (hP : P = 53 ∨ P = 24) (hn : n = st.2.1 i / 2 ^ (bl (st.2.1 i) - P)) (he : e = (bl (st.2.1 i) : Int) - P - 2000) (hc : st.2.1 i % 2 ^ (bl (st.2.1 i) - P) = 0) : f_X_step_135 (nI d) (nI i) (lI (mz (st.1 i) (st.2.1 i))) (lN n) (iI e) st.2.2.1 st.2.2.2.1 st.2.2.2.2 (xM st) (xP st) = some (XR (gop st d (st.1 i) (stp (st.2.1 i) P false) 0)) := by
  unfold f_X_step_135 stp
  rw [if_neg v0, if_neg (by decide), if_neg (fun q => q hc), ← hn]
  have hr : 1901 ≤ bl (st.2.1 i) ∧ bl (st.2.1 i) ≤ 2100 := by
    rcases hv with q | ⟨q1, q2, -⟩
    · exact absurd q v0
    · exact ⟨q1, q2⟩
  have hp : pz (st.2.1 i) = (bl (st.2.1 i) : Int) - 2053 := by unfold pz; rw [if_neg v0]
  have hbn : bl n = P := by rw [hn, bl_div]; omega
  have hlt : n < 2 ^ P := bl_le_iff.mp (by omega)
  have hge : 2 ^ (P - 1) ≤ n := bl_lt_iff.mp (by omega)
  have h53 : n < 2 ^ 53 := by rcases hP with rfl | rfl <;> omega
  obtain ⟨c, E, c64, cc1, cc2⟩ := bc_end (n := n) (by omega)
  have hcc : c ≤ 1 ↔ n = 2 ^ (P - 1) := by
    rcases hP with rfl | rfl
    · exact cc1 hge hlt
    · exact cc2 hge hlt
  have n1 : 1 ≤ n := Nat.le_trans (Nat.one_le_two_pow) hge
  rw [E, Option.bind_some, show (1 : Int32) = iI 1 from rfl]
  by_cases h : c ≤ 1
  · rw [if_pos ((iI_le (by omega) (by omega) (by decide) (by decide)).mpr (by omega)), if_pos (hcc.mp h), topOf_ok hi, Option.bind_some, hp, show (-100 : Int32) = iI (-100) by decide]
    by_cases t : bl (st.2.1 i) = 1901
    · rw [if_pos ((iI_eq (by omega) (by omega) (by decide) (by decide)).mpr (by omega)), if_pos t]
      have := st182 (st := st) hd (ng := st.1 i) (n := 0) (e := e) hv v0 (by decide) (by omega) (by omega)
      rw [show val 0 e = 0 from Nat.zero_mul _] at this
      exact this
    · rw [if_neg (fun q => t (by have := (iI_eq (by omega) (by omega) (by decide) (by decide)).mp q; omega)), if_neg t]
      have := st182 (st := st) hd (ng := st.1 i) (n := 2 * n - 1) (e := e - 1) hv v0 (by have := hcc.mp h; rcases hP with rfl | rfl <;> omega) (by omega) (by omega)
      rw [show val (2 * n - 1) (e - 1) = (2 * n - 1) * 2 ^ (bl (st.2.1 i) - P - 1) by unfold val; congr 2; omega] at this
      rw [← this, show (2 : Int64) = lN 2 from rfl, show (1 : Int64) = lN 1 from rfl, ← lI_lN 2, ← lI_lN n, lI_mul, ← lI_lN 1, lI_sub, ← lI_lN, iI_neg, iI_add, show ((2 : Nat) : Int) * (n : Int) - ((1 : Nat) : Int) = ((2 * n - 1 : Nat) : Int) by omega, show e + -1 = e - 1 by omega]
  · rw [if_neg (fun q => h (by have := (iI_le (by omega) (by omega) (by decide) (by decide)).mp q; omega)), if_neg (fun q => h (hcc.mpr q))]
    have := st182 (st := st) hd (ng := st.1 i) (n := n - 1) (e := e) hv v0 (by omega) (by omega) (by omega)
    rw [st_val (P := P) (v := st.2.1 i) (by omega)] at this
    rw [← this, show (1 : Int64) = lN 1 from rfl, lNsub n1]
theorem st85 {st : ASt} (hI : Inv st) {d i : Nat} (hd : d < 8) (hi : i < 8) (v0 : st.2.1 i ≠ 0) (away : Bool) (a4 : Int32) {y : Int32} (hy : y = if a4 = 0 then 0 else 29) : f_X_step_85 (nI d) (nI i) a4 (lI (mz (st.1 i) (st.2.1 i))) (bI away) y st.2.2.1 st.2.2.2.1 st.2.2.2.2 (xM st) (xP st) = some (XR (gop st d (st.1 i) (stp (st.2.1 i) (bitsOf a4) away) 0)) := by
  have hv := (hI i).1
  have hf := reg_facts hv
  have a := mz_abs (st.1 i) (st.2.1 i)
  obtain ⟨r1, r2, r3⟩ : 1901 ≤ bl (st.2.1 i) ∧ bl (st.2.1 i) ≤ 2100 ∧ st.2.1 i % 2 ^ (bl (st.2.1 i) - 53) = 0 := by
    rcases hv with q | q
    · exact absurd q v0
    · exact q
  have hp : pz (st.2.1 i) = (bl (st.2.1 i) : Int) - 2053 := by unfold pz; rw [if_neg v0]
  have hP : bitsOf a4 = 53 ∨ bitsOf a4 = 24 := by unfold bitsOf; split <;> simp
  have hP0 : a4 = 0 → bitsOf a4 = 53 := fun q => by unfold bitsOf; rw [if_pos q]
  have hP1 : a4 ≠ 0 → bitsOf a4 = 24 := fun q => by unfold bitsOf; rw [if_neg q]
  have hsz : jshr (jabs (lI (mz (st.1 i) (st.2.1 i)))) y = lN (st.2.1 i / 2 ^ (bl (st.2.1 i) - bitsOf a4)) ∧ xP st i + y = iI ((bl (st.2.1 i) : Int) - bitsOf a4 - 2000) := by
    rw [jabs_ok (by omega) (by omega), a, show xP st i = iI (pz (st.2.1 i)) from rfl, hp]
    by_cases h : a4 = 0
    · rw [hP0 h, hy, if_pos h, show (0 : Int32) = iI 0 from rfl, jshr_i (by omega) (by decide) (by decide), iI_add]
      exact ⟨congrArg lN (Nat.div_one _), congrArg iI (by omega)⟩
    · rw [hP1 h, hy, if_neg h, show (29 : Int32) = iI 29 from rfl, jshr_i (by omega) (by decide) (by decide), iI_add]
      refine ⟨?_, congrArg iI (by omega)⟩
      unfold mt
      rw [show bl (st.2.1 i) - 24 = (bl (st.2.1 i) - 53) + 29 by omega, cut_div]; rfl
  unfold f_X_step_85
  rw [if_neg (in8 hi), cl8 hi, hsz.1, hsz.2]
  have hbn : bl (st.2.1 i / 2 ^ (bl (st.2.1 i) - bitsOf a4)) = bitsOf a4 := by rw [bl_div]; omega
  have hlt : st.2.1 i / 2 ^ (bl (st.2.1 i) - bitsOf a4) < 2 ^ 53 := bl_le_iff.mp (by omega)
  cases away
  · rw [if_pos (show bI false = 0 from rfl)]
    by_cases h : a4 = 0
    · rw [if_pos h]
      exact st135 hd hi hv v0 hP rfl rfl (by rw [hP0 h]; exact r3)
    · rw [if_neg h, isNar_ok hI hi, Option.bind_some]
      by_cases w : nrw (st.2.1 i)
      · rw [decide_eq_true w, if_neg (show ¬ bI true = 0 by decide)]
        exact st135 hd hi hv v0 hP rfl rfl (by rw [hP1 h]; exact w)
      · rw [decide_eq_false w, if_pos (show bI false = 0 from rfl)]
        have := st182 (st := st) hd (ng := st.1 i) (n := st.2.1 i / 2 ^ (bl (st.2.1 i) - bitsOf a4)) (e := (bl (st.2.1 i) : Int) - bitsOf a4 - 2000) hv v0 (by omega) (by omega) (by omega)
        rw [this, st_val (P := bitsOf a4) (v := st.2.1 i) (by omega)]
        unfold stp
        rw [if_neg v0, if_neg (by decide), if_pos (by rw [hP1 h]; exact w)]
  · rw [if_neg (show ¬ bI true = 0 by decide), show (1 : Int64) = lN 1 from rfl, lNadd]
    have := st182 (st := st) hd (ng := st.1 i) (n := st.2.1 i / 2 ^ (bl (st.2.1 i) - bitsOf a4) + 1) (e := (bl (st.2.1 i) : Int) - bitsOf a4 - 2000) hv v0 (by omega) (by omega) (by omega)
    rw [this, st_val (P := bitsOf a4) (v := st.2.1 i) (by omega)]
    unfold stp
    rw [if_neg v0, if_pos rfl]
theorem X_step_ok {st : ASt} (hI : Inv st) (a1 a2 : Int32) (up : Bool) (a4 : Int32) : f_X_step st.2.2.1 st.2.2.2.1 st.2.2.2.2 (xM st) (xP st) a1 a2 (bI up) a4 = some (XR (A_step st a1 a2 up a4)) := by
  unfold f_X_step A_step
  rw [isReg_ok, isReg_ok]
  simp only [Option.bind_some]
  by_cases h1 : okr a1
  · by_cases h2 : okr a2
    · rw [decide_eq_true h1, if_neg (show ¬ bI true = 0 by decide), decide_eq_true h2, if_neg (show ¬ bI true = 0 by decide), if_pos (show okr a1 ∧ okr a2 from ⟨h1, h2⟩)]
      obtain ⟨d, hd, rfl⟩ := okr_nI h1
      obtain ⟨i, hi, rfl⟩ := okr_nI h2
      have hf := reg_facts (hI i).1
      have a := mz_abs (st.1 i) (st.2.1 i)
      rw [if_neg (in8 hi)]
      simp only [ix, cl8 hi, cl8 hd]
      rw [show xM st i = lI (mz (st.1 i) (st.2.1 i)) from rfl]
      have hz : lg_cmp (lI (mz (st.1 i) (st.2.1 i))) (0 : Int64) = 0 ↔ st.2.1 i = 0 := by
        rw [lg_cmp_eq, ← hf.2.2.2.2.1]
        refine (lI_eq (b := 0) (by omega) (by omega) (by decide) (by decide)).trans ?_
        omega
      by_cases v0 : st.2.1 i = 0
      · rw [if_pos (hz.mpr v0), if_pos v0]
        have hs : stp (st.2.1 i) (bitsOf a4) (up != st.1 i) = val 1 (-100) := by
          unfold stp; rw [if_pos v0]; unfold val; rw [Nat.one_mul]; rfl
        rw [hs]
        have P := put_g (st := st) hd (ng := !up) (n := 1) (e := -100) (by decide) (by decide) (by decide)
        cases up
        · rw [if_pos (show bI false = 0 from rfl), show (-1 : Int64) = lI (if (!false) = true then -((1 : Nat) : Int) else ((1 : Nat) : Int)) by decide, show (-100 : Int32) = iI (-100) by decide, P, Option.bind_some]
        · rw [if_neg (show ¬ bI true = 0 by decide), show (1 : Int64) = lI (if (!true) = true then -((1 : Nat) : Int) else ((1 : Nat) : Int)) by decide, show (-100 : Int32) = iI (-100) by decide, P, Option.bind_some]
      · have big := hf.2.2.2.2.2 v0
        rw [if_neg (fun q => v0 (hz.mp q)), if_neg v0]
        have hm : (lg_cmp (lI (mz (st.1 i) (st.2.1 i))) (0 : Int64) ≤ 0) ↔ st.1 i = true := by
          rw [lg_cmp_le]
          refine (lI_le (b := 0) (by omega) (by omega) (by decide) (by decide)).trans ?_
          rw [mz_mt]
          cases st.1 i
          · simp; omega
          · simp
        have s72 : ∀ aw : Bool, f_X_step_72 (nI d) (nI i) a4 (lI (mz (st.1 i) (st.2.1 i))) (bI aw) st.2.2.1 st.2.2.2.1 st.2.2.2.2 (xM st) (xP st) = some (XR (gop st d (st.1 i) (stp (st.2.1 i) (bitsOf a4) aw) 0)) := by
          intro aw
          unfold f_X_step_72
          by_cases h : a4 = 0
          · rw [if_pos h]; exact st85 hI hd hi v0 aw a4 (by rw [if_pos h])
          · rw [if_neg h]; exact st85 hI hd hi v0 aw a4 (by rw [if_neg h])
        have s64 : ∀ b : Bool, f_X_step_64 (nI d) (nI i) a4 (lI (mz (st.1 i) (st.2.1 i))) (bI b) (bI up) st.2.2.1 st.2.2.2.1 st.2.2.2.2 (xM st) (xP st) = some (XR (gop st d (st.1 i) (stp (st.2.1 i) (bitsOf a4) (up == b)) 0)) := by
          intro b
          unfold f_X_step_64
          by_cases h : up = b
          · rw [if_pos (congrArg bI h), beq_iff_eq.mpr h]; exact s72 true
          · rw [if_neg (fun q => h ((bI_inj _ _).mp q)), beq_eq_false_iff_ne.mpr h]; exact s72 false
        by_cases n1 : st.1 i = true
        · rw [if_pos (hm.mpr n1)]
          have := s64 false
          rw [n1] at this ⊢
          rw [show (up != true) = (up == false) by cases up <;> rfl]
          exact this
        · rw [if_neg (fun q => n1 (hm.mp q))]
          have n1' : st.1 i = false := by simpa using n1
          have := s64 true
          rw [n1'] at this ⊢
          rw [show (up != false) = (up == true) by cases up <;> rfl]
          exact this
    · rw [decide_eq_true h1, if_neg (show ¬ bI true = 0 by decide), decide_eq_false h2, if_pos (show bI false = 0 from rfl), if_neg (fun q => h2 q.2)]
  · rw [decide_eq_false h1, if_pos (show bI false = 0 from rfl), if_neg (fun q => h1 q.1)]
