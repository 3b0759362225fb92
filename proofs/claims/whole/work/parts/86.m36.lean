/-! PURE: the cases of the law (written by wip/gen/lawcases.py) -/
abbrev LK : Type := Int32 → Int32 → Int32 → Int32 → (Nat → Int64) → (Nat → Int32) → Int32 → Int64 → Int64 → Int32 → Int32 → Int32 → Int64 → Int64 → Int32 → Int32 → Int32 → Int64 → Int64 → Int32 → Int32 → Int32 → Int32 → Int32 → Int64 → Int32 → Int32 → (Nat → Int64) → (Nat → Int32) → (Nat → Int32) → (Nat → Int32) → (Nat → Int32) → Option Int32
def GoodK (K : LK) (x : Int32) : Prop := ∀ (st : ASt), Inv st → ∀ (e1 : Int32) (e2 : Int64) (e3 : Int64) (e4 : Int32) (e5 : Int32) (e6 : Int32) (e7 : Int64) (e8 : Int64) (e9 : Int32) (e10 : Int32) (e11 : Int32) (e12 : Int64) (e13 : Int64) (e14 : Int32) (e15 : Int32) (t1 : Int64) (t2 t3 : Int32) (X Y : Nat), X < 2 ^ 840 → Y < 2 ^ 840 → K x st.2.2.1 st.2.2.2.1 st.2.2.2.2 (xM st) (xP st) e1 e2 e3 e4 e5 e6 e7 e8 e9 e10 e11 e12 e13 e14 e15 st.2.2.1 st.2.2.2.1 st.2.2.2.2 t1 t2 t3 (yO st) (yN st) (yB st) (lb X) (lb Y) = some 1
theorem lx {i k L : Nat} (h : i + k < L) (hL : L ≤ 2560) : ¬ ((nI i + nI k) < 0 ∨ L ≤ (nI i + nI k).toNatClampNeg) := by
  rw [nI_add]; exact nI_in h (by omega)
theorem set_k (st : ASt) (a1 : Int32) (a2 : Int64) (a3 : Int32) : (A_set st a1 a2 a3).2.2.2.1 = st.2.2.1 ∧ (A_set st a1 a2 a3).2.2.2.2.1 = st.2.2.2.1 := by
  unfold A_set; split
  · split <;> exact ⟨rfl, rfl⟩
  · exact ⟨rfl, rfl⟩
set_option maxHeartbeats 2000000 in
theorem L_add {L i : Nat} (hiL : i + 5 ≤ L) (hL : L ≤ 2560) (xs : Nat → Int32) (K : LK) (hK : GoodK K (nI i + (5 : Int32))) {st : ASt} (hI : Inv st) (e1 : Int32) (e2 : Int64) (e3 : Int64) (e4 : Int32) (e5 : Int32) (e6 : Int32) (e7 : Int64) (e8 : Int64) (e9 : Int32) (e10 : Int32) (e11 : Int32) (e12 : Int64) (e13 : Int64) (e14 : Int32) (e15 : Int32) (t1 : Int64) (t2 t3 : Int32) {X Y : Nat} (hX : X < 2 ^ 840) (hY : Y < 2 ^ 840) : f_law_193 L xs K (nI i) st.2.2.1 st.2.2.2.1 st.2.2.2.2 (xM st) (xP st) e1 e2 e3 e4 e5 e6 e7 e8 e9 e10 e11 e12 e13 e14 e15 st.2.2.1 st.2.2.2.1 st.2.2.2.2 t1 t2 t3 (yO st) (yN st) (yB st) (lb X) (lb Y) = some 1 := by
  have b1 : ¬ ((nI i + (1 : Int32)) < 0 ∨ L ≤ (nI i + (1 : Int32)).toNatClampNeg) := lx (k := 1) (by omega) hL
  have b2 : ¬ ((nI i + (2 : Int32)) < 0 ∨ L ≤ (nI i + (2 : Int32)).toNatClampNeg) := lx (k := 2) (by omega) hL
  have b3 : ¬ ((nI i + (3 : Int32)) < 0 ∨ L ≤ (nI i + (3 : Int32)).toNatClampNeg) := lx (k := 3) (by omega) hL
  have b4 : ¬ ((nI i + (4 : Int32)) < 0 ∨ L ≤ (nI i + (4 : Int32)).toNatClampNeg) := lx (k := 4) (by omega) hL
  by_cases z4 : (xs (nI i + (4 : Int32)).toNatClampNeg) = 0
  · unfold f_law_193 f_law_222 f_law_254
    simp only [if_neg b1, if_neg b2, if_neg b3, if_neg b4, if_pos z4]
    obtain ⟨j1, j2, j3, j4, j5, j6, j7, j8, j9, j10, EX⟩ := X_add_ok hI e1 e2 e3 e4 e5 e6 e7 e8 e9 e10 (xs (nI i + (1 : Int32)).toNatClampNeg) (xs (nI i + (2 : Int32)).toNatClampNeg) (xs (nI i + (3 : Int32)).toNatClampNeg) (0 : Int32)
    obtain ⟨u1, u2, u3, X2, Y2, hX2, hY2, EY⟩ := Y_add_ok hI hX hY t1 t2 t3 (xs (nI i + (1 : Int32)).toNatClampNeg) (xs (nI i + (2 : Int32)).toNatClampNeg) (xs (nI i + (3 : Int32)).toNatClampNeg) (0 : Int32)
    rw [EX, Option.bind_some, EY, Option.bind_some]
    rw [if_pos rfl]
    exact hK (A_add st (xs (nI i + (1 : Int32)).toNatClampNeg) (xs (nI i + (2 : Int32)).toNatClampNeg) (xs (nI i + (3 : Int32)).toNatClampNeg) (0 : Int32)).2 (I_add hI (xs (nI i + (1 : Int32)).toNatClampNeg) (xs (nI i + (2 : Int32)).toNatClampNeg) (xs (nI i + (3 : Int32)).toNatClampNeg) (0 : Int32)) j1 j2 j3 j4 j5 j6 j7 j8 j9 j10 e11 e12 e13 e14 e15 u1 u2 u3 X2 Y2 hX2 hY2
  · unfold f_law_193 f_law_222 f_law_254
    simp only [if_neg b1, if_neg b2, if_neg b3, if_neg b4, if_neg z4]
    obtain ⟨j1, j2, j3, j4, j5, j6, j7, j8, j9, j10, EX⟩ := X_add_ok hI e1 e2 e3 e4 e5 e6 e7 e8 e9 e10 (xs (nI i + (1 : Int32)).toNatClampNeg) (xs (nI i + (2 : Int32)).toNatClampNeg) (xs (nI i + (3 : Int32)).toNatClampNeg) (1 : Int32)
    obtain ⟨u1, u2, u3, X2, Y2, hX2, hY2, EY⟩ := Y_add_ok hI hX hY t1 t2 t3 (xs (nI i + (1 : Int32)).toNatClampNeg) (xs (nI i + (2 : Int32)).toNatClampNeg) (xs (nI i + (3 : Int32)).toNatClampNeg) (1 : Int32)
    rw [EX, Option.bind_some, EY, Option.bind_some]
    rw [if_pos rfl]
    exact hK (A_add st (xs (nI i + (1 : Int32)).toNatClampNeg) (xs (nI i + (2 : Int32)).toNatClampNeg) (xs (nI i + (3 : Int32)).toNatClampNeg) (1 : Int32)).2 (I_add hI (xs (nI i + (1 : Int32)).toNatClampNeg) (xs (nI i + (2 : Int32)).toNatClampNeg) (xs (nI i + (3 : Int32)).toNatClampNeg) (1 : Int32)) j1 j2 j3 j4 j5 j6 j7 j8 j9 j10 e11 e12 e13 e14 e15 u1 u2 u3 X2 Y2 hX2 hY2
set_option maxHeartbeats 2000000 in
theorem L_sub {L i : Nat} (hiL : i + 5 ≤ L) (hL : L ≤ 2560) (xs : Nat → Int32) (K : LK) (hK : GoodK K (nI i + (5 : Int32))) {st : ASt} (hI : Inv st) (e1 : Int32) (e2 : Int64) (e3 : Int64) (e4 : Int32) (e5 : Int32) (e6 : Int32) (e7 : Int64) (e8 : Int64) (e9 : Int32) (e10 : Int32) (e11 : Int32) (e12 : Int64) (e13 : Int64) (e14 : Int32) (e15 : Int32) (t1 : Int64) (t2 t3 : Int32) {X Y : Nat} (hX : X < 2 ^ 840) (hY : Y < 2 ^ 840) : f_law_262 L xs K (nI i) st.2.2.1 st.2.2.2.1 st.2.2.2.2 (xM st) (xP st) e1 e2 e3 e4 e5 e6 e7 e8 e9 e10 e11 e12 e13 e14 e15 st.2.2.1 st.2.2.2.1 st.2.2.2.2 t1 t2 t3 (yO st) (yN st) (yB st) (lb X) (lb Y) = some 1 := by
  have b1 : ¬ ((nI i + (1 : Int32)) < 0 ∨ L ≤ (nI i + (1 : Int32)).toNatClampNeg) := lx (k := 1) (by omega) hL
  have b2 : ¬ ((nI i + (2 : Int32)) < 0 ∨ L ≤ (nI i + (2 : Int32)).toNatClampNeg) := lx (k := 2) (by omega) hL
  have b3 : ¬ ((nI i + (3 : Int32)) < 0 ∨ L ≤ (nI i + (3 : Int32)).toNatClampNeg) := lx (k := 3) (by omega) hL
  have b4 : ¬ ((nI i + (4 : Int32)) < 0 ∨ L ≤ (nI i + (4 : Int32)).toNatClampNeg) := lx (k := 4) (by omega) hL
  by_cases z4 : (xs (nI i + (4 : Int32)).toNatClampNeg) = 0
  · unfold f_law_262 f_law_291 f_law_323
    simp only [if_neg b1, if_neg b2, if_neg b3, if_neg b4, if_pos z4]
    obtain ⟨j1, j2, j3, j4, j5, j6, j7, j8, j9, j10, EX⟩ := X_sub_ok hI e1 e2 e3 e4 e5 e6 e7 e8 e9 e10 (xs (nI i + (1 : Int32)).toNatClampNeg) (xs (nI i + (2 : Int32)).toNatClampNeg) (xs (nI i + (3 : Int32)).toNatClampNeg) (0 : Int32)
    obtain ⟨u1, u2, u3, X2, Y2, hX2, hY2, EY⟩ := Y_sub_ok hI hX hY t1 t2 t3 (xs (nI i + (1 : Int32)).toNatClampNeg) (xs (nI i + (2 : Int32)).toNatClampNeg) (xs (nI i + (3 : Int32)).toNatClampNeg) (0 : Int32)
    rw [EX, Option.bind_some, EY, Option.bind_some]
    rw [if_pos rfl]
    exact hK (A_sub st (xs (nI i + (1 : Int32)).toNatClampNeg) (xs (nI i + (2 : Int32)).toNatClampNeg) (xs (nI i + (3 : Int32)).toNatClampNeg) (0 : Int32)).2 (I_sub hI (xs (nI i + (1 : Int32)).toNatClampNeg) (xs (nI i + (2 : Int32)).toNatClampNeg) (xs (nI i + (3 : Int32)).toNatClampNeg) (0 : Int32)) j1 j2 j3 j4 j5 j6 j7 j8 j9 j10 e11 e12 e13 e14 e15 u1 u2 u3 X2 Y2 hX2 hY2
  · unfold f_law_262 f_law_291 f_law_323
    simp only [if_neg b1, if_neg b2, if_neg b3, if_neg b4, if_neg z4]
    obtain ⟨j1, j2, j3, j4, j5, j6, j7, j8, j9, j10, EX⟩ := X_sub_ok hI e1 e2 e3 e4 e5 e6 e7 e8 e9 e10 (xs (nI i + (1 : Int32)).toNatClampNeg) (xs (nI i + (2 : Int32)).toNatClampNeg) (xs (nI i + (3 : Int32)).toNatClampNeg) (1 : Int32)
    obtain ⟨u1, u2, u3, X2, Y2, hX2, hY2, EY⟩ := Y_sub_ok hI hX hY t1 t2 t3 (xs (nI i + (1 : Int32)).toNatClampNeg) (xs (nI i + (2 : Int32)).toNatClampNeg) (xs (nI i + (3 : Int32)).toNatClampNeg) (1 : Int32)
    rw [EX, Option.bind_some, EY, Option.bind_some]
    rw [if_pos rfl]
    exact hK (A_sub st (xs (nI i + (1 : Int32)).toNatClampNeg) (xs (nI i + (2 : Int32)).toNatClampNeg) (xs (nI i + (3 : Int32)).toNatClampNeg) (1 : Int32)).2 (I_sub hI (xs (nI i + (1 : Int32)).toNatClampNeg) (xs (nI i + (2 : Int32)).toNatClampNeg) (xs (nI i + (3 : Int32)).toNatClampNeg) (1 : Int32)) j1 j2 j3 j4 j5 j6 j7 j8 j9 j10 e11 e12 e13 e14 e15 u1 u2 u3 X2 Y2 hX2 hY2
set_option maxHeartbeats 2000000 in
theorem L_mul {L i : Nat} (hiL : i + 5 ≤ L) (hL : L ≤ 2560) (xs : Nat → Int32) (K : LK) (hK : GoodK K (nI i + (5 : Int32))) {st : ASt} (hI : Inv st) (e1 : Int32) (e2 : Int64) (e3 : Int64) (e4 : Int32) (e5 : Int32) (e6 : Int32) (e7 : Int64) (e8 : Int64) (e9 : Int32) (e10 : Int32) (e11 : Int32) (e12 : Int64) (e13 : Int64) (e14 : Int32) (e15 : Int32) (t1 : Int64) (t2 t3 : Int32) {X Y : Nat} (hX : X < 2 ^ 840) (hY : Y < 2 ^ 840) : f_law_331 L xs K (nI i) st.2.2.1 st.2.2.2.1 st.2.2.2.2 (xM st) (xP st) e1 e2 e3 e4 e5 e6 e7 e8 e9 e10 e11 e12 e13 e14 e15 st.2.2.1 st.2.2.2.1 st.2.2.2.2 t1 t2 t3 (yO st) (yN st) (yB st) (lb X) (lb Y) = some 1 := by
  have b1 : ¬ ((nI i + (1 : Int32)) < 0 ∨ L ≤ (nI i + (1 : Int32)).toNatClampNeg) := lx (k := 1) (by omega) hL
  have b2 : ¬ ((nI i + (2 : Int32)) < 0 ∨ L ≤ (nI i + (2 : Int32)).toNatClampNeg) := lx (k := 2) (by omega) hL
  have b3 : ¬ ((nI i + (3 : Int32)) < 0 ∨ L ≤ (nI i + (3 : Int32)).toNatClampNeg) := lx (k := 3) (by omega) hL
  have b4 : ¬ ((nI i + (4 : Int32)) < 0 ∨ L ≤ (nI i + (4 : Int32)).toNatClampNeg) := lx (k := 4) (by omega) hL
  by_cases z4 : (xs (nI i + (4 : Int32)).toNatClampNeg) = 0
  · unfold f_law_331 f_law_360 f_law_392
    simp only [if_neg b1, if_neg b2, if_neg b3, if_neg b4, if_pos z4]
    obtain ⟨j1, j2, j3, j4, j5, EX⟩ := X_mul_ok hI e1 e2 e3 e4 e5 (xs (nI i + (1 : Int32)).toNatClampNeg) (xs (nI i + (2 : Int32)).toNatClampNeg) (xs (nI i + (3 : Int32)).toNatClampNeg) (0 : Int32)
    obtain ⟨u1, u2, u3, X2, Y2, hX2, hY2, EY⟩ := Y_mul_ok hI hX hY t1 t2 t3 (xs (nI i + (1 : Int32)).toNatClampNeg) (xs (nI i + (2 : Int32)).toNatClampNeg) (xs (nI i + (3 : Int32)).toNatClampNeg) (0 : Int32)
    rw [EX, Option.bind_some, EY, Option.bind_some]
    rw [if_pos rfl]
    exact hK (A_mul st (xs (nI i + (1 : Int32)).toNatClampNeg) (xs (nI i + (2 : Int32)).toNatClampNeg) (xs (nI i + (3 : Int32)).toNatClampNeg) (0 : Int32)).2 (I_mul hI (xs (nI i + (1 : Int32)).toNatClampNeg) (xs (nI i + (2 : Int32)).toNatClampNeg) (xs (nI i + (3 : Int32)).toNatClampNeg) (0 : Int32)) j1 j2 j3 j4 j5 e6 e7 e8 e9 e10 e11 e12 e13 e14 e15 u1 u2 u3 X2 Y2 hX2 hY2
  · unfold f_law_331 f_law_360 f_law_392
    simp only [if_neg b1, if_neg b2, if_neg b3, if_neg b4, if_neg z4]
    obtain ⟨j1, j2, j3, j4, j5, EX⟩ := X_mul_ok hI e1 e2 e3 e4 e5 (xs (nI i + (1 : Int32)).toNatClampNeg) (xs (nI i + (2 : Int32)).toNatClampNeg) (xs (nI i + (3 : Int32)).toNatClampNeg) (1 : Int32)
    obtain ⟨u1, u2, u3, X2, Y2, hX2, hY2, EY⟩ := Y_mul_ok hI hX hY t1 t2 t3 (xs (nI i + (1 : Int32)).toNatClampNeg) (xs (nI i + (2 : Int32)).toNatClampNeg) (xs (nI i + (3 : Int32)).toNatClampNeg) (1 : Int32)
    rw [EX, Option.bind_some, EY, Option.bind_some]
    rw [if_pos rfl]
    exact hK (A_mul st (xs (nI i + (1 : Int32)).toNatClampNeg) (xs (nI i + (2 : Int32)).toNatClampNeg) (xs (nI i + (3 : Int32)).toNatClampNeg) (1 : Int32)).2 (I_mul hI (xs (nI i + (1 : Int32)).toNatClampNeg) (xs (nI i + (2 : Int32)).toNatClampNeg) (xs (nI i + (3 : Int32)).toNatClampNeg) (1 : Int32)) j1 j2 j3 j4 j5 e6 e7 e8 e9 e10 e11 e12 e13 e14 e15 u1 u2 u3 X2 Y2 hX2 hY2
set_option maxHeartbeats 2000000 in
theorem L_div {L i : Nat} (hiL : i + 5 ≤ L) (hL : L ≤ 2560) (xs : Nat → Int32) (K : LK) (hK : GoodK K (nI i + (5 : Int32))) {st : ASt} (hI : Inv st) (e1 : Int32) (e2 : Int64) (e3 : Int64) (e4 : Int32) (e5 : Int32) (e6 : Int32) (e7 : Int64) (e8 : Int64) (e9 : Int32) (e10 : Int32) (e11 : Int32) (e12 : Int64) (e13 : Int64) (e14 : Int32) (e15 : Int32) (t1 : Int64) (t2 t3 : Int32) {X Y : Nat} (hX : X < 2 ^ 840) (hY : Y < 2 ^ 840) : f_law_400 L xs K (nI i) st.2.2.1 st.2.2.2.1 st.2.2.2.2 (xM st) (xP st) e1 e2 e3 e4 e5 e6 e7 e8 e9 e10 e11 e12 e13 e14 e15 st.2.2.1 st.2.2.2.1 st.2.2.2.2 t1 t2 t3 (yO st) (yN st) (yB st) (lb X) (lb Y) = some 1 := by
  have b1 : ¬ ((nI i + (1 : Int32)) < 0 ∨ L ≤ (nI i + (1 : Int32)).toNatClampNeg) := lx (k := 1) (by omega) hL
  have b2 : ¬ ((nI i + (2 : Int32)) < 0 ∨ L ≤ (nI i + (2 : Int32)).toNatClampNeg) := lx (k := 2) (by omega) hL
  have b3 : ¬ ((nI i + (3 : Int32)) < 0 ∨ L ≤ (nI i + (3 : Int32)).toNatClampNeg) := lx (k := 3) (by omega) hL
  have b4 : ¬ ((nI i + (4 : Int32)) < 0 ∨ L ≤ (nI i + (4 : Int32)).toNatClampNeg) := lx (k := 4) (by omega) hL
  by_cases z4 : (xs (nI i + (4 : Int32)).toNatClampNeg) = 0
  · unfold f_law_400 f_law_429 f_law_461
    simp only [if_neg b1, if_neg b2, if_neg b3, if_neg b4, if_pos z4]
    obtain ⟨j1, j2, j3, j4, j5, EX⟩ := X_div_ok hI e1 e2 e3 e4 e5 (xs (nI i + (1 : Int32)).toNatClampNeg) (xs (nI i + (2 : Int32)).toNatClampNeg) (xs (nI i + (3 : Int32)).toNatClampNeg) (0 : Int32)
    obtain ⟨u1, u2, u3, EY⟩ := Y_div_ok hI t1 t2 t3 (xs (nI i + (1 : Int32)).toNatClampNeg) (xs (nI i + (2 : Int32)).toNatClampNeg) (xs (nI i + (3 : Int32)).toNatClampNeg) (0 : Int32)
    rw [EX, Option.bind_some, EY, Option.bind_some]
    rw [if_pos rfl]
    exact hK (A_div st (xs (nI i + (1 : Int32)).toNatClampNeg) (xs (nI i + (2 : Int32)).toNatClampNeg) (xs (nI i + (3 : Int32)).toNatClampNeg) (0 : Int32)).2 (I_div hI (xs (nI i + (1 : Int32)).toNatClampNeg) (xs (nI i + (2 : Int32)).toNatClampNeg) (xs (nI i + (3 : Int32)).toNatClampNeg) (0 : Int32)) j1 j2 j3 j4 j5 e6 e7 e8 e9 e10 e11 e12 e13 e14 e15 u1 u2 u3 X Y hX hY
  · unfold f_law_400 f_law_429 f_law_461
    simp only [if_neg b1, if_neg b2, if_neg b3, if_neg b4, if_neg z4]
    obtain ⟨j1, j2, j3, j4, j5, EX⟩ := X_div_ok hI e1 e2 e3 e4 e5 (xs (nI i + (1 : Int32)).toNatClampNeg) (xs (nI i + (2 : Int32)).toNatClampNeg) (xs (nI i + (3 : Int32)).toNatClampNeg) (1 : Int32)
    obtain ⟨u1, u2, u3, EY⟩ := Y_div_ok hI t1 t2 t3 (xs (nI i + (1 : Int32)).toNatClampNeg) (xs (nI i + (2 : Int32)).toNatClampNeg) (xs (nI i + (3 : Int32)).toNatClampNeg) (1 : Int32)
    rw [EX, Option.bind_some, EY, Option.bind_some]
    rw [if_pos rfl]
    exact hK (A_div st (xs (nI i + (1 : Int32)).toNatClampNeg) (xs (nI i + (2 : Int32)).toNatClampNeg) (xs (nI i + (3 : Int32)).toNatClampNeg) (1 : Int32)).2 (I_div hI (xs (nI i + (1 : Int32)).toNatClampNeg) (xs (nI i + (2 : Int32)).toNatClampNeg) (xs (nI i + (3 : Int32)).toNatClampNeg) (1 : Int32)) j1 j2 j3 j4 j5 e6 e7 e8 e9 e10 e11 e12 e13 e14 e15 u1 u2 u3 X Y hX hY
set_option maxHeartbeats 2000000 in
theorem L_fuse {L i : Nat} (hiL : i + 5 ≤ L) (hL : L ≤ 2560) (xs : Nat → Int32) (K : LK) (hK : GoodK K (nI i + (5 : Int32))) {st : ASt} (hI : Inv st) (e1 : Int32) (e2 : Int64) (e3 : Int64) (e4 : Int32) (e5 : Int32) (e6 : Int32) (e7 : Int64) (e8 : Int64) (e9 : Int32) (e10 : Int32) (e11 : Int32) (e12 : Int64) (e13 : Int64) (e14 : Int32) (e15 : Int32) (t1 : Int64) (t2 t3 : Int32) {X Y : Nat} (hX : X < 2 ^ 840) (hY : Y < 2 ^ 840) : f_law_469 L xs K (nI i) st.2.2.1 st.2.2.2.1 st.2.2.2.2 (xM st) (xP st) e1 e2 e3 e4 e5 e6 e7 e8 e9 e10 e11 e12 e13 e14 e15 st.2.2.1 st.2.2.2.1 st.2.2.2.2 t1 t2 t3 (yO st) (yN st) (yB st) (lb X) (lb Y) = some 1 := by
  have b1 : ¬ ((nI i + (1 : Int32)) < 0 ∨ L ≤ (nI i + (1 : Int32)).toNatClampNeg) := lx (k := 1) (by omega) hL
  have b2 : ¬ ((nI i + (2 : Int32)) < 0 ∨ L ≤ (nI i + (2 : Int32)).toNatClampNeg) := lx (k := 2) (by omega) hL
  have b3 : ¬ ((nI i + (3 : Int32)) < 0 ∨ L ≤ (nI i + (3 : Int32)).toNatClampNeg) := lx (k := 3) (by omega) hL
  have b4 : ¬ ((nI i + (4 : Int32)) < 0 ∨ L ≤ (nI i + (4 : Int32)).toNatClampNeg) := lx (k := 4) (by omega) hL
  unfold f_law_469
  simp only [if_neg b1, if_neg b2, if_neg b3, if_neg b4]
  obtain ⟨j1, j2, j3, j4, j5, j6, j7, j8, j9, j10, EX⟩ := X_fuse_ok hI e1 e2 e3 e4 e5 e6 e7 e8 e9 e10 (xs (nI i + (1 : Int32)).toNatClampNeg) (xs (nI i + (2 : Int32)).toNatClampNeg) (xs (nI i + (3 : Int32)).toNatClampNeg) (xs (nI i + (4 : Int32)).toNatClampNeg)
  obtain ⟨u1, u2, u3, X2, Y2, hX2, hY2, EY⟩ := Y_fuse_ok hI hX hY t1 t2 t3 (xs (nI i + (1 : Int32)).toNatClampNeg) (xs (nI i + (2 : Int32)).toNatClampNeg) (xs (nI i + (3 : Int32)).toNatClampNeg) (xs (nI i + (4 : Int32)).toNatClampNeg)
  rw [EX, Option.bind_some, EY, Option.bind_some]
  rw [if_pos rfl]
  exact hK (A_fus st (xs (nI i + (1 : Int32)).toNatClampNeg) (xs (nI i + (2 : Int32)).toNatClampNeg) (xs (nI i + (3 : Int32)).toNatClampNeg) (xs (nI i + (4 : Int32)).toNatClampNeg) 0).2 (I_fus hI (xs (nI i + (1 : Int32)).toNatClampNeg) (xs (nI i + (2 : Int32)).toNatClampNeg) (xs (nI i + (3 : Int32)).toNatClampNeg) (xs (nI i + (4 : Int32)).toNatClampNeg) 0) j1 j2 j3 j4 j5 j6 j7 j8 j9 j10 e11 e12 e13 e14 e15 u1 u2 u3 X2 Y2 hX2 hY2
set_option maxHeartbeats 2000000 in
theorem L_fuseN {L i : Nat} (hiL : i + 5 ≤ L) (hL : L ≤ 2560) (xs : Nat → Int32) (K : LK) (hK : GoodK K (nI i + (5 : Int32))) {st : ASt} (hI : Inv st) (e1 : Int32) (e2 : Int64) (e3 : Int64) (e4 : Int32) (e5 : Int32) (e6 : Int32) (e7 : Int64) (e8 : Int64) (e9 : Int32) (e10 : Int32) (e11 : Int32) (e12 : Int64) (e13 : Int64) (e14 : Int32) (e15 : Int32) (t1 : Int64) (t2 t3 : Int32) {X Y : Nat} (hX : X < 2 ^ 840) (hY : Y < 2 ^ 840) : f_law_522 L xs K (nI i) st.2.2.1 st.2.2.2.1 st.2.2.2.2 (xM st) (xP st) e1 e2 e3 e4 e5 e6 e7 e8 e9 e10 e11 e12 e13 e14 e15 st.2.2.1 st.2.2.2.1 st.2.2.2.2 t1 t2 t3 (yO st) (yN st) (yB st) (lb X) (lb Y) = some 1 := by
  have b1 : ¬ ((nI i + (1 : Int32)) < 0 ∨ L ≤ (nI i + (1 : Int32)).toNatClampNeg) := lx (k := 1) (by omega) hL
  have b2 : ¬ ((nI i + (2 : Int32)) < 0 ∨ L ≤ (nI i + (2 : Int32)).toNatClampNeg) := lx (k := 2) (by omega) hL
  have b3 : ¬ ((nI i + (3 : Int32)) < 0 ∨ L ≤ (nI i + (3 : Int32)).toNatClampNeg) := lx (k := 3) (by omega) hL
  have b4 : ¬ ((nI i + (4 : Int32)) < 0 ∨ L ≤ (nI i + (4 : Int32)).toNatClampNeg) := lx (k := 4) (by omega) hL
  unfold f_law_522
  simp only [if_neg b1, if_neg b2, if_neg b3, if_neg b4]
  obtain ⟨j1, j2, j3, j4, j5, j6, j7, j8, j9, j10, EX⟩ := X_fuseN_ok hI e1 e2 e3 e4 e5 e6 e7 e8 e9 e10 (xs (nI i + (1 : Int32)).toNatClampNeg) (xs (nI i + (2 : Int32)).toNatClampNeg) (xs (nI i + (3 : Int32)).toNatClampNeg) (xs (nI i + (4 : Int32)).toNatClampNeg)
  obtain ⟨u1, u2, u3, X2, Y2, hX2, hY2, EY⟩ := Y_fuseN_ok hI hX hY t1 t2 t3 (xs (nI i + (1 : Int32)).toNatClampNeg) (xs (nI i + (2 : Int32)).toNatClampNeg) (xs (nI i + (3 : Int32)).toNatClampNeg) (xs (nI i + (4 : Int32)).toNatClampNeg)
  rw [EX, Option.bind_some, EY, Option.bind_some]
  rw [if_pos rfl]
  exact hK (A_fus st (xs (nI i + (1 : Int32)).toNatClampNeg) (xs (nI i + (2 : Int32)).toNatClampNeg) (xs (nI i + (3 : Int32)).toNatClampNeg) (xs (nI i + (4 : Int32)).toNatClampNeg) 1).2 (I_fus hI (xs (nI i + (1 : Int32)).toNatClampNeg) (xs (nI i + (2 : Int32)).toNatClampNeg) (xs (nI i + (3 : Int32)).toNatClampNeg) (xs (nI i + (4 : Int32)).toNatClampNeg) 1) j1 j2 j3 j4 j5 j6 j7 j8 j9 j10 e11 e12 e13 e14 e15 u1 u2 u3 X2 Y2 hX2 hY2
set_option maxHeartbeats 2000000 in
theorem L_root {L i : Nat} (hiL : i + 5 ≤ L) (hL : L ≤ 2560) (xs : Nat → Int32) (K : LK) (hK : GoodK K (nI i + (5 : Int32))) {st : ASt} (hI : Inv st) (e1 : Int32) (e2 : Int64) (e3 : Int64) (e4 : Int32) (e5 : Int32) (e6 : Int32) (e7 : Int64) (e8 : Int64) (e9 : Int32) (e10 : Int32) (e11 : Int32) (e12 : Int64) (e13 : Int64) (e14 : Int32) (e15 : Int32) (t1 : Int64) (t2 t3 : Int32) {X Y : Nat} (hX : X < 2 ^ 840) (hY : Y < 2 ^ 840) : f_law_575 L xs K (nI i) st.2.2.1 st.2.2.2.1 st.2.2.2.2 (xM st) (xP st) e1 e2 e3 e4 e5 e6 e7 e8 e9 e10 e11 e12 e13 e14 e15 st.2.2.1 st.2.2.2.1 st.2.2.2.2 t1 t2 t3 (yO st) (yN st) (yB st) (lb X) (lb Y) = some 1 := by
  have b1 : ¬ ((nI i + (1 : Int32)) < 0 ∨ L ≤ (nI i + (1 : Int32)).toNatClampNeg) := lx (k := 1) (by omega) hL
  have b2 : ¬ ((nI i + (2 : Int32)) < 0 ∨ L ≤ (nI i + (2 : Int32)).toNatClampNeg) := lx (k := 2) (by omega) hL
  have b3 : ¬ ((nI i + (3 : Int32)) < 0 ∨ L ≤ (nI i + (3 : Int32)).toNatClampNeg) := lx (k := 3) (by omega) hL
  have b4 : ¬ ((nI i + (4 : Int32)) < 0 ∨ L ≤ (nI i + (4 : Int32)).toNatClampNeg) := lx (k := 4) (by omega) hL
  by_cases z3 : (xs (nI i + (3 : Int32)).toNatClampNeg) = 0
  · unfold f_law_575 f_law_599 f_law_626
    simp only [if_neg b1, if_neg b2, if_neg b3, if_neg b4, if_pos z3]
    obtain ⟨j1, j2, j3, j4, j5, EX⟩ := X_root_ok hI e1 e2 e3 e4 e5 (xs (nI i + (1 : Int32)).toNatClampNeg) (xs (nI i + (2 : Int32)).toNatClampNeg) (0 : Int32)
    obtain ⟨u1, u2, u3, EY⟩ := Y_root_ok hI t1 t2 t3 (xs (nI i + (1 : Int32)).toNatClampNeg) (xs (nI i + (2 : Int32)).toNatClampNeg) (0 : Int32)
    rw [EX, Option.bind_some, EY, Option.bind_some]
    rw [if_pos rfl]
    exact hK (A_root st (xs (nI i + (1 : Int32)).toNatClampNeg) (xs (nI i + (2 : Int32)).toNatClampNeg) (0 : Int32)).2 (I_root hI (xs (nI i + (1 : Int32)).toNatClampNeg) (xs (nI i + (2 : Int32)).toNatClampNeg) (0 : Int32)) j1 j2 j3 j4 j5 e6 e7 e8 e9 e10 e11 e12 e13 e14 e15 u1 u2 u3 X Y hX hY
  · unfold f_law_575 f_law_599 f_law_626
    simp only [if_neg b1, if_neg b2, if_neg b3, if_neg b4, if_neg z3]
    obtain ⟨j1, j2, j3, j4, j5, EX⟩ := X_root_ok hI e1 e2 e3 e4 e5 (xs (nI i + (1 : Int32)).toNatClampNeg) (xs (nI i + (2 : Int32)).toNatClampNeg) (1 : Int32)
    obtain ⟨u1, u2, u3, EY⟩ := Y_root_ok hI t1 t2 t3 (xs (nI i + (1 : Int32)).toNatClampNeg) (xs (nI i + (2 : Int32)).toNatClampNeg) (1 : Int32)
    rw [EX, Option.bind_some, EY, Option.bind_some]
    rw [if_pos rfl]
    exact hK (A_root st (xs (nI i + (1 : Int32)).toNatClampNeg) (xs (nI i + (2 : Int32)).toNatClampNeg) (1 : Int32)).2 (I_root hI (xs (nI i + (1 : Int32)).toNatClampNeg) (xs (nI i + (2 : Int32)).toNatClampNeg) (1 : Int32)) j1 j2 j3 j4 j5 e6 e7 e8 e9 e10 e11 e12 e13 e14 e15 u1 u2 u3 X Y hX hY
set_option maxHeartbeats 2000000 in
theorem L_rem {L i : Nat} (hiL : i + 5 ≤ L) (hL : L ≤ 2560) (xs : Nat → Int32) (K : LK) (hK : GoodK K (nI i + (5 : Int32))) {st : ASt} (hI : Inv st) (e1 : Int32) (e2 : Int64) (e3 : Int64) (e4 : Int32) (e5 : Int32) (e6 : Int32) (e7 : Int64) (e8 : Int64) (e9 : Int32) (e10 : Int32) (e11 : Int32) (e12 : Int64) (e13 : Int64) (e14 : Int32) (e15 : Int32) (t1 : Int64) (t2 t3 : Int32) {X Y : Nat} (hX : X < 2 ^ 840) (hY : Y < 2 ^ 840) : f_law_634 L xs K (nI i) st.2.2.1 st.2.2.2.1 st.2.2.2.2 (xM st) (xP st) e1 e2 e3 e4 e5 e6 e7 e8 e9 e10 e11 e12 e13 e14 e15 st.2.2.1 st.2.2.2.1 st.2.2.2.2 t1 t2 t3 (yO st) (yN st) (yB st) (lb X) (lb Y) = some 1 := by
  have b1 : ¬ ((nI i + (1 : Int32)) < 0 ∨ L ≤ (nI i + (1 : Int32)).toNatClampNeg) := lx (k := 1) (by omega) hL
  have b2 : ¬ ((nI i + (2 : Int32)) < 0 ∨ L ≤ (nI i + (2 : Int32)).toNatClampNeg) := lx (k := 2) (by omega) hL
  have b3 : ¬ ((nI i + (3 : Int32)) < 0 ∨ L ≤ (nI i + (3 : Int32)).toNatClampNeg) := lx (k := 3) (by omega) hL
  have b4 : ¬ ((nI i + (4 : Int32)) < 0 ∨ L ≤ (nI i + (4 : Int32)).toNatClampNeg) := lx (k := 4) (by omega) hL
  unfold f_law_634
  simp only [if_neg b1, if_neg b2, if_neg b3, if_neg b4]
  obtain ⟨j1, j2, j3, j4, j5, EX⟩ := X_rem_ok hI e1 e2 e3 e4 e5 (xs (nI i + (1 : Int32)).toNatClampNeg) (xs (nI i + (2 : Int32)).toNatClampNeg) (xs (nI i + (3 : Int32)).toNatClampNeg)
  have EY := Y_rem_ok hI (xs (nI i + (1 : Int32)).toNatClampNeg) (xs (nI i + (2 : Int32)).toNatClampNeg) (xs (nI i + (3 : Int32)).toNatClampNeg)
  rw [EX, Option.bind_some, EY, Option.bind_some]
  rw [if_pos rfl]
  exact hK (A_rem st (xs (nI i + (1 : Int32)).toNatClampNeg) (xs (nI i + (2 : Int32)).toNatClampNeg) (xs (nI i + (3 : Int32)).toNatClampNeg)).2 (I_rem hI (xs (nI i + (1 : Int32)).toNatClampNeg) (xs (nI i + (2 : Int32)).toNatClampNeg) (xs (nI i + (3 : Int32)).toNatClampNeg)) j1 j2 j3 j4 j5 e6 e7 e8 e9 e10 e11 e12 e13 e14 e15 t1 t2 t3 X Y hX hY
set_option maxHeartbeats 2000000 in
theorem L_copy {L i : Nat} (hiL : i + 5 ≤ L) (hL : L ≤ 2560) (xs : Nat → Int32) (K : LK) (hK : GoodK K (nI i + (5 : Int32))) {st : ASt} (hI : Inv st) (e1 : Int32) (e2 : Int64) (e3 : Int64) (e4 : Int32) (e5 : Int32) (e6 : Int32) (e7 : Int64) (e8 : Int64) (e9 : Int32) (e10 : Int32) (e11 : Int32) (e12 : Int64) (e13 : Int64) (e14 : Int32) (e15 : Int32) (t1 : Int64) (t2 t3 : Int32) {X Y : Nat} (hX : X < 2 ^ 840) (hY : Y < 2 ^ 840) : f_law_677 L xs K (nI i) st.2.2.1 st.2.2.2.1 st.2.2.2.2 (xM st) (xP st) e1 e2 e3 e4 e5 e6 e7 e8 e9 e10 e11 e12 e13 e14 e15 st.2.2.1 st.2.2.2.1 st.2.2.2.2 t1 t2 t3 (yO st) (yN st) (yB st) (lb X) (lb Y) = some 1 := by
  have b1 : ¬ ((nI i + (1 : Int32)) < 0 ∨ L ≤ (nI i + (1 : Int32)).toNatClampNeg) := lx (k := 1) (by omega) hL
  have b2 : ¬ ((nI i + (2 : Int32)) < 0 ∨ L ≤ (nI i + (2 : Int32)).toNatClampNeg) := lx (k := 2) (by omega) hL
  have b3 : ¬ ((nI i + (3 : Int32)) < 0 ∨ L ≤ (nI i + (3 : Int32)).toNatClampNeg) := lx (k := 3) (by omega) hL
  have b4 : ¬ ((nI i + (4 : Int32)) < 0 ∨ L ≤ (nI i + (4 : Int32)).toNatClampNeg) := lx (k := 4) (by omega) hL
  by_cases z3 : (xs (nI i + (3 : Int32)).toNatClampNeg) = 0
  · unfold f_law_677 f_law_701 f_law_728
    simp only [if_neg b1, if_neg b2, if_neg b3, if_neg b4, if_pos z3]
    obtain ⟨j1, j2, j3, j4, j5, EX⟩ := X_copy_ok hI e1 e2 e3 e4 e5 (xs (nI i + (1 : Int32)).toNatClampNeg) (xs (nI i + (2 : Int32)).toNatClampNeg) (0 : Int32)
    obtain ⟨u1, u2, u3, EY⟩ := Y_copy_ok hI t1 t2 t3 (xs (nI i + (1 : Int32)).toNatClampNeg) (xs (nI i + (2 : Int32)).toNatClampNeg) (0 : Int32)
    rw [EX, Option.bind_some, EY, Option.bind_some]
    rw [if_pos rfl]
    exact hK (A_copy st (xs (nI i + (1 : Int32)).toNatClampNeg) (xs (nI i + (2 : Int32)).toNatClampNeg) (0 : Int32)).2 (I_copy hI (xs (nI i + (1 : Int32)).toNatClampNeg) (xs (nI i + (2 : Int32)).toNatClampNeg) (0 : Int32)) j1 j2 j3 j4 j5 e6 e7 e8 e9 e10 e11 e12 e13 e14 e15 u1 u2 u3 X Y hX hY
  · unfold f_law_677 f_law_701 f_law_728
    simp only [if_neg b1, if_neg b2, if_neg b3, if_neg b4, if_neg z3]
    obtain ⟨j1, j2, j3, j4, j5, EX⟩ := X_copy_ok hI e1 e2 e3 e4 e5 (xs (nI i + (1 : Int32)).toNatClampNeg) (xs (nI i + (2 : Int32)).toNatClampNeg) (1 : Int32)
    obtain ⟨u1, u2, u3, EY⟩ := Y_copy_ok hI t1 t2 t3 (xs (nI i + (1 : Int32)).toNatClampNeg) (xs (nI i + (2 : Int32)).toNatClampNeg) (1 : Int32)
    rw [EX, Option.bind_some, EY, Option.bind_some]
    rw [if_pos rfl]
    exact hK (A_copy st (xs (nI i + (1 : Int32)).toNatClampNeg) (xs (nI i + (2 : Int32)).toNatClampNeg) (1 : Int32)).2 (I_copy hI (xs (nI i + (1 : Int32)).toNatClampNeg) (xs (nI i + (2 : Int32)).toNatClampNeg) (1 : Int32)) j1 j2 j3 j4 j5 e6 e7 e8 e9 e10 e11 e12 e13 e14 e15 u1 u2 u3 X Y hX hY
set_option maxHeartbeats 2000000 in
theorem L_scale {L i : Nat} (hiL : i + 5 ≤ L) (hL : L ≤ 2560) (xs : Nat → Int32) (K : LK) (hK : GoodK K (nI i + (5 : Int32))) {st : ASt} (hI : Inv st) (e1 : Int32) (e2 : Int64) (e3 : Int64) (e4 : Int32) (e5 : Int32) (e6 : Int32) (e7 : Int64) (e8 : Int64) (e9 : Int32) (e10 : Int32) (e11 : Int32) (e12 : Int64) (e13 : Int64) (e14 : Int32) (e15 : Int32) (t1 : Int64) (t2 t3 : Int32) {X Y : Nat} (hX : X < 2 ^ 840) (hY : Y < 2 ^ 840) : f_law_736 L xs K (nI i) st.2.2.1 st.2.2.2.1 st.2.2.2.2 (xM st) (xP st) e1 e2 e3 e4 e5 e6 e7 e8 e9 e10 e11 e12 e13 e14 e15 st.2.2.1 st.2.2.2.1 st.2.2.2.2 t1 t2 t3 (yO st) (yN st) (yB st) (lb X) (lb Y) = some 1 := by
  have b1 : ¬ ((nI i + (1 : Int32)) < 0 ∨ L ≤ (nI i + (1 : Int32)).toNatClampNeg) := lx (k := 1) (by omega) hL
  have b2 : ¬ ((nI i + (2 : Int32)) < 0 ∨ L ≤ (nI i + (2 : Int32)).toNatClampNeg) := lx (k := 2) (by omega) hL
  have b3 : ¬ ((nI i + (3 : Int32)) < 0 ∨ L ≤ (nI i + (3 : Int32)).toNatClampNeg) := lx (k := 3) (by omega) hL
  have b4 : ¬ ((nI i + (4 : Int32)) < 0 ∨ L ≤ (nI i + (4 : Int32)).toNatClampNeg) := lx (k := 4) (by omega) hL
  unfold f_law_736
  simp only [if_neg b1, if_neg b2, if_neg b3, if_neg b4]
  obtain ⟨j1, j2, j3, j4, j5, EX⟩ := X_scale_ok hI e1 e2 e3 e4 e5 (xs (nI i + (1 : Int32)).toNatClampNeg) (xs (nI i + (2 : Int32)).toNatClampNeg) (xs (nI i + (3 : Int32)).toNatClampNeg)
  have EY := Y_scale_ok hI (xs (nI i + (1 : Int32)).toNatClampNeg) (xs (nI i + (2 : Int32)).toNatClampNeg) (xs (nI i + (3 : Int32)).toNatClampNeg)
  rw [EX, Option.bind_some, EY, Option.bind_some]
  rw [if_pos rfl]
  exact hK (A_scale st (xs (nI i + (1 : Int32)).toNatClampNeg) (xs (nI i + (2 : Int32)).toNatClampNeg) (xs (nI i + (3 : Int32)).toNatClampNeg)).2 (I_scale hI (xs (nI i + (1 : Int32)).toNatClampNeg) (xs (nI i + (2 : Int32)).toNatClampNeg) (xs (nI i + (3 : Int32)).toNatClampNeg)) j1 j2 j3 j4 j5 e6 e7 e8 e9 e10 e11 e12 e13 e14 e15 t1 t2 t3 X Y hX hY
set_option maxHeartbeats 2000000 in
theorem L_step {L i : Nat} (hiL : i + 5 ≤ L) (hL : L ≤ 2560) (xs : Nat → Int32) (K : LK) (hK : GoodK K (nI i + (5 : Int32))) {st : ASt} (hI : Inv st) (e1 : Int32) (e2 : Int64) (e3 : Int64) (e4 : Int32) (e5 : Int32) (e6 : Int32) (e7 : Int64) (e8 : Int64) (e9 : Int32) (e10 : Int32) (e11 : Int32) (e12 : Int64) (e13 : Int64) (e14 : Int32) (e15 : Int32) (t1 : Int64) (t2 t3 : Int32) {X Y : Nat} (hX : X < 2 ^ 840) (hY : Y < 2 ^ 840) : f_law_779 L xs K (nI i) st.2.2.1 st.2.2.2.1 st.2.2.2.2 (xM st) (xP st) e1 e2 e3 e4 e5 e6 e7 e8 e9 e10 e11 e12 e13 e14 e15 st.2.2.1 st.2.2.2.1 st.2.2.2.2 t1 t2 t3 (yO st) (yN st) (yB st) (lb X) (lb Y) = some 1 := by
  have b1 : ¬ ((nI i + (1 : Int32)) < 0 ∨ L ≤ (nI i + (1 : Int32)).toNatClampNeg) := lx (k := 1) (by omega) hL
  have b2 : ¬ ((nI i + (2 : Int32)) < 0 ∨ L ≤ (nI i + (2 : Int32)).toNatClampNeg) := lx (k := 2) (by omega) hL
  have b3 : ¬ ((nI i + (3 : Int32)) < 0 ∨ L ≤ (nI i + (3 : Int32)).toNatClampNeg) := lx (k := 3) (by omega) hL
  have b4 : ¬ ((nI i + (4 : Int32)) < 0 ∨ L ≤ (nI i + (4 : Int32)).toNatClampNeg) := lx (k := 4) (by omega) hL
  by_cases z3 : (xs (nI i + (3 : Int32)).toNatClampNeg) = 0
  · by_cases z4 : (xs (nI i + (4 : Int32)).toNatClampNeg) = 0
    · unfold f_law_779 f_law_803 f_law_816 f_law_843 f_law_856
      simp only [if_neg b1, if_neg b2, if_neg b3, if_neg b4, if_pos z3, if_pos z4]
      have EX := X_step_ok hI (xs (nI i + (1 : Int32)).toNatClampNeg) (xs (nI i + (2 : Int32)).toNatClampNeg) false (0 : Int32)
      have EY := Y_step_ok hI (xs (nI i + (1 : Int32)).toNatClampNeg) (xs (nI i + (2 : Int32)).toNatClampNeg) false (0 : Int32)
      rw [show bI false = (0 : Int32) from rfl] at EX EY
      rw [EX, Option.bind_some, EY, Option.bind_some]
      rw [if_pos rfl]
      exact hK (A_step st (xs (nI i + (1 : Int32)).toNatClampNeg) (xs (nI i + (2 : Int32)).toNatClampNeg) false (0 : Int32)).2 (I_step hI (xs (nI i + (1 : Int32)).toNatClampNeg) (xs (nI i + (2 : Int32)).toNatClampNeg) false (0 : Int32)) e1 e2 e3 e4 e5 e6 e7 e8 e9 e10 e11 e12 e13 e14 e15 t1 t2 t3 X Y hX hY
    · unfold f_law_779 f_law_803 f_law_816 f_law_843 f_law_856
      simp only [if_neg b1, if_neg b2, if_neg b3, if_neg b4, if_pos z3, if_neg z4]
      have EX := X_step_ok hI (xs (nI i + (1 : Int32)).toNatClampNeg) (xs (nI i + (2 : Int32)).toNatClampNeg) false (1 : Int32)
      have EY := Y_step_ok hI (xs (nI i + (1 : Int32)).toNatClampNeg) (xs (nI i + (2 : Int32)).toNatClampNeg) false (1 : Int32)
      rw [show bI false = (0 : Int32) from rfl] at EX EY
      rw [EX, Option.bind_some, EY, Option.bind_some]
      rw [if_pos rfl]
      exact hK (A_step st (xs (nI i + (1 : Int32)).toNatClampNeg) (xs (nI i + (2 : Int32)).toNatClampNeg) false (1 : Int32)).2 (I_step hI (xs (nI i + (1 : Int32)).toNatClampNeg) (xs (nI i + (2 : Int32)).toNatClampNeg) false (1 : Int32)) e1 e2 e3 e4 e5 e6 e7 e8 e9 e10 e11 e12 e13 e14 e15 t1 t2 t3 X Y hX hY
  · by_cases z4 : (xs (nI i + (4 : Int32)).toNatClampNeg) = 0
    · unfold f_law_779 f_law_803 f_law_816 f_law_843 f_law_856
      simp only [if_neg b1, if_neg b2, if_neg b3, if_neg b4, if_neg z3, if_pos z4]
      have EX := X_step_ok hI (xs (nI i + (1 : Int32)).toNatClampNeg) (xs (nI i + (2 : Int32)).toNatClampNeg) true (0 : Int32)
      have EY := Y_step_ok hI (xs (nI i + (1 : Int32)).toNatClampNeg) (xs (nI i + (2 : Int32)).toNatClampNeg) true (0 : Int32)
      rw [show bI true = (1 : Int32) from rfl] at EX EY
      rw [EX, Option.bind_some, EY, Option.bind_some]
      rw [if_pos rfl]
      exact hK (A_step st (xs (nI i + (1 : Int32)).toNatClampNeg) (xs (nI i + (2 : Int32)).toNatClampNeg) true (0 : Int32)).2 (I_step hI (xs (nI i + (1 : Int32)).toNatClampNeg) (xs (nI i + (2 : Int32)).toNatClampNeg) true (0 : Int32)) e1 e2 e3 e4 e5 e6 e7 e8 e9 e10 e11 e12 e13 e14 e15 t1 t2 t3 X Y hX hY
    · unfold f_law_779 f_law_803 f_law_816 f_law_843 f_law_856
      simp only [if_neg b1, if_neg b2, if_neg b3, if_neg b4, if_neg z3, if_neg z4]
      have EX := X_step_ok hI (xs (nI i + (1 : Int32)).toNatClampNeg) (xs (nI i + (2 : Int32)).toNatClampNeg) true (1 : Int32)
      have EY := Y_step_ok hI (xs (nI i + (1 : Int32)).toNatClampNeg) (xs (nI i + (2 : Int32)).toNatClampNeg) true (1 : Int32)
      rw [show bI true = (1 : Int32) from rfl] at EX EY
      rw [EX, Option.bind_some, EY, Option.bind_some]
      rw [if_pos rfl]
      exact hK (A_step st (xs (nI i + (1 : Int32)).toNatClampNeg) (xs (nI i + (2 : Int32)).toNatClampNeg) true (1 : Int32)).2 (I_step hI (xs (nI i + (1 : Int32)).toNatClampNeg) (xs (nI i + (2 : Int32)).toNatClampNeg) true (1 : Int32)) e1 e2 e3 e4 e5 e6 e7 e8 e9 e10 e11 e12 e13 e14 e15 t1 t2 t3 X Y hX hY
set_option maxHeartbeats 2000000 in
theorem L_cube {L i : Nat} (hiL : i + 5 ≤ L) (hL : L ≤ 2560) (xs : Nat → Int32) (K : LK) (hK : GoodK K (nI i + (5 : Int32))) {st : ASt} (hI : Inv st) (e1 : Int32) (e2 : Int64) (e3 : Int64) (e4 : Int32) (e5 : Int32) (e6 : Int32) (e7 : Int64) (e8 : Int64) (e9 : Int32) (e10 : Int32) (e11 : Int32) (e12 : Int64) (e13 : Int64) (e14 : Int32) (e15 : Int32) (t1 : Int64) (t2 t3 : Int32) {X Y : Nat} (hX : X < 2 ^ 840) (hY : Y < 2 ^ 840) : f_law_864 L xs K (nI i) st.2.2.1 st.2.2.2.1 st.2.2.2.2 (xM st) (xP st) e1 e2 e3 e4 e5 e6 e7 e8 e9 e10 e11 e12 e13 e14 e15 st.2.2.1 st.2.2.2.1 st.2.2.2.2 t1 t2 t3 (yO st) (yN st) (yB st) (lb X) (lb Y) = some 1 := by
  have b1 : ¬ ((nI i + (1 : Int32)) < 0 ∨ L ≤ (nI i + (1 : Int32)).toNatClampNeg) := lx (k := 1) (by omega) hL
  have b2 : ¬ ((nI i + (2 : Int32)) < 0 ∨ L ≤ (nI i + (2 : Int32)).toNatClampNeg) := lx (k := 2) (by omega) hL
  have b3 : ¬ ((nI i + (3 : Int32)) < 0 ∨ L ≤ (nI i + (3 : Int32)).toNatClampNeg) := lx (k := 3) (by omega) hL
  have b4 : ¬ ((nI i + (4 : Int32)) < 0 ∨ L ≤ (nI i + (4 : Int32)).toNatClampNeg) := lx (k := 4) (by omega) hL
  unfold f_law_864
  simp only [if_neg b1, if_neg b2, if_neg b3, if_neg b4]
  obtain ⟨j1, j2, j3, j4, j5, j6, j7, j8, j9, j10, j11, j12, j13, j14, j15, EX⟩ := X_cube_ok hI e1 e2 e3 e4 e5 e6 e7 e8 e9 e10 e11 e12 e13 e14 e15 (xs (nI i + (1 : Int32)).toNatClampNeg) (xs (nI i + (2 : Int32)).toNatClampNeg)
  obtain ⟨X2, Y2, hX2, hY2, EY⟩ := Y_cube_ok hI hX hY (xs (nI i + (1 : Int32)).toNatClampNeg) (xs (nI i + (2 : Int32)).toNatClampNeg)
  rw [EX, Option.bind_some, EY, Option.bind_some]
  rw [if_pos rfl]
  exact hK st hI j1 j2 j3 j4 j5 j6 j7 j8 j9 j10 j11 j12 j13 j14 j15 t1 t2 t3 X2 Y2 hX2 hY2
set_option maxHeartbeats 2000000 in
theorem L_cmp {L i : Nat} (hiL : i + 5 ≤ L) (hL : L ≤ 2560) (xs : Nat → Int32) (K : LK) (hK : GoodK K (nI i + (5 : Int32))) {st : ASt} (hI : Inv st) (e1 : Int32) (e2 : Int64) (e3 : Int64) (e4 : Int32) (e5 : Int32) (e6 : Int32) (e7 : Int64) (e8 : Int64) (e9 : Int32) (e10 : Int32) (e11 : Int32) (e12 : Int64) (e13 : Int64) (e14 : Int32) (e15 : Int32) (t1 : Int64) (t2 t3 : Int32) {X Y : Nat} (hX : X < 2 ^ 840) (hY : Y < 2 ^ 840) : f_law_897 L xs K (nI i) st.2.2.1 st.2.2.2.1 st.2.2.2.2 (xM st) (xP st) e1 e2 e3 e4 e5 e6 e7 e8 e9 e10 e11 e12 e13 e14 e15 st.2.2.1 st.2.2.2.1 st.2.2.2.2 t1 t2 t3 (yO st) (yN st) (yB st) (lb X) (lb Y) = some 1 := by
  have b1 : ¬ ((nI i + (1 : Int32)) < 0 ∨ L ≤ (nI i + (1 : Int32)).toNatClampNeg) := lx (k := 1) (by omega) hL
  have b2 : ¬ ((nI i + (2 : Int32)) < 0 ∨ L ≤ (nI i + (2 : Int32)).toNatClampNeg) := lx (k := 2) (by omega) hL
  have b3 : ¬ ((nI i + (3 : Int32)) < 0 ∨ L ≤ (nI i + (3 : Int32)).toNatClampNeg) := lx (k := 3) (by omega) hL
  have b4 : ¬ ((nI i + (4 : Int32)) < 0 ∨ L ≤ (nI i + (4 : Int32)).toNatClampNeg) := lx (k := 4) (by omega) hL
  unfold f_law_897
  simp only [if_neg b1, if_neg b2, if_neg b3, if_neg b4]
  have EX := X_cmp_ok hI (xs (nI i + (1 : Int32)).toNatClampNeg) (xs (nI i + (2 : Int32)).toNatClampNeg)
  have EY := Y_cmp_ok hI (xs (nI i + (1 : Int32)).toNatClampNeg) (xs (nI i + (2 : Int32)).toNatClampNeg)
  rw [EX, Option.bind_some, EY, Option.bind_some]
  rw [if_pos rfl]
  exact hK st hI e1 e2 e3 e4 e5 e6 e7 e8 e9 e10 e11 e12 e13 e14 e15 t1 t2 t3 X Y hX hY
set_option maxHeartbeats 2000000 in
theorem L_odd {L i : Nat} (hiL : i + 5 ≤ L) (hL : L ≤ 2560) (xs : Nat → Int32) (K : LK) (hK : GoodK K (nI i + (5 : Int32))) {st : ASt} (hI : Inv st) (e1 : Int32) (e2 : Int64) (e3 : Int64) (e4 : Int32) (e5 : Int32) (e6 : Int32) (e7 : Int64) (e8 : Int64) (e9 : Int32) (e10 : Int32) (e11 : Int32) (e12 : Int64) (e13 : Int64) (e14 : Int32) (e15 : Int32) (t1 : Int64) (t2 t3 : Int32) {X Y : Nat} (hX : X < 2 ^ 840) (hY : Y < 2 ^ 840) : f_law_930 L xs K (nI i) st.2.2.1 st.2.2.2.1 st.2.2.2.2 (xM st) (xP st) e1 e2 e3 e4 e5 e6 e7 e8 e9 e10 e11 e12 e13 e14 e15 st.2.2.1 st.2.2.2.1 st.2.2.2.2 t1 t2 t3 (yO st) (yN st) (yB st) (lb X) (lb Y) = some 1 := by
  have b1 : ¬ ((nI i + (1 : Int32)) < 0 ∨ L ≤ (nI i + (1 : Int32)).toNatClampNeg) := lx (k := 1) (by omega) hL
  have b2 : ¬ ((nI i + (2 : Int32)) < 0 ∨ L ≤ (nI i + (2 : Int32)).toNatClampNeg) := lx (k := 2) (by omega) hL
  have b3 : ¬ ((nI i + (3 : Int32)) < 0 ∨ L ≤ (nI i + (3 : Int32)).toNatClampNeg) := lx (k := 3) (by omega) hL
  have b4 : ¬ ((nI i + (4 : Int32)) < 0 ∨ L ≤ (nI i + (4 : Int32)).toNatClampNeg) := lx (k := 4) (by omega) hL
  unfold f_law_930
  simp only [if_neg b1, if_neg b2, if_neg b3, if_neg b4]
  have EX := X_odd_ok hI (xs (nI i + (1 : Int32)).toNatClampNeg)
  have EY := Y_odd_ok st (xs (nI i + (1 : Int32)).toNatClampNeg)
  rw [EX, Option.bind_some, EY, Option.bind_some]
  rw [if_pos ((lg_cmp_eq _ _).mpr rfl)]
  exact hK st hI e1 e2 e3 e4 e5 e6 e7 e8 e9 e10 e11 e12 e13 e14 e15 t1 t2 t3 X Y hX hY
set_option maxHeartbeats 2000000 in
theorem L_exp {L i : Nat} (hiL : i + 5 ≤ L) (hL : L ≤ 2560) (xs : Nat → Int32) (K : LK) (hK : GoodK K (nI i + (5 : Int32))) {st : ASt} (hI : Inv st) (e1 : Int32) (e2 : Int64) (e3 : Int64) (e4 : Int32) (e5 : Int32) (e6 : Int32) (e7 : Int64) (e8 : Int64) (e9 : Int32) (e10 : Int32) (e11 : Int32) (e12 : Int64) (e13 : Int64) (e14 : Int32) (e15 : Int32) (t1 : Int64) (t2 t3 : Int32) {X Y : Nat} (hX : X < 2 ^ 840) (hY : Y < 2 ^ 840) : f_law_954 L xs K (nI i) st.2.2.1 st.2.2.2.1 st.2.2.2.2 (xM st) (xP st) e1 e2 e3 e4 e5 e6 e7 e8 e9 e10 e11 e12 e13 e14 e15 st.2.2.1 st.2.2.2.1 st.2.2.2.2 t1 t2 t3 (yO st) (yN st) (yB st) (lb X) (lb Y) = some 1 := by
  have b1 : ¬ ((nI i + (1 : Int32)) < 0 ∨ L ≤ (nI i + (1 : Int32)).toNatClampNeg) := lx (k := 1) (by omega) hL
  have b2 : ¬ ((nI i + (2 : Int32)) < 0 ∨ L ≤ (nI i + (2 : Int32)).toNatClampNeg) := lx (k := 2) (by omega) hL
  have b3 : ¬ ((nI i + (3 : Int32)) < 0 ∨ L ≤ (nI i + (3 : Int32)).toNatClampNeg) := lx (k := 3) (by omega) hL
  have b4 : ¬ ((nI i + (4 : Int32)) < 0 ∨ L ≤ (nI i + (4 : Int32)).toNatClampNeg) := lx (k := 4) (by omega) hL
  unfold f_law_954
  simp only [if_neg b1, if_neg b2, if_neg b3, if_neg b4]
  have EX := X_exp_ok hI (xs (nI i + (1 : Int32)).toNatClampNeg)
  have EY := Y_exp_ok hI (xs (nI i + (1 : Int32)).toNatClampNeg)
  rw [EX, Option.bind_some, EY, Option.bind_some]
  rw [if_pos ((lg_cmp_eq _ _).mpr rfl)]
  exact hK st hI e1 e2 e3 e4 e5 e6 e7 e8 e9 e10 e11 e12 e13 e14 e15 t1 t2 t3 X Y hX hY
set_option maxHeartbeats 2000000 in
theorem L_whole {L i : Nat} (hiL : i + 5 ≤ L) (hL : L ≤ 2560) (xs : Nat → Int32) (K : LK) (hK : GoodK K (nI i + (5 : Int32))) {st : ASt} (hI : Inv st) (e1 : Int32) (e2 : Int64) (e3 : Int64) (e4 : Int32) (e5 : Int32) (e6 : Int32) (e7 : Int64) (e8 : Int64) (e9 : Int32) (e10 : Int32) (e11 : Int32) (e12 : Int64) (e13 : Int64) (e14 : Int32) (e15 : Int32) (t1 : Int64) (t2 t3 : Int32) {X Y : Nat} (hX : X < 2 ^ 840) (hY : Y < 2 ^ 840) : f_law_978 L xs K (nI i) st.2.2.1 st.2.2.2.1 st.2.2.2.2 (xM st) (xP st) e1 e2 e3 e4 e5 e6 e7 e8 e9 e10 e11 e12 e13 e14 e15 st.2.2.1 st.2.2.2.1 st.2.2.2.2 t1 t2 t3 (yO st) (yN st) (yB st) (lb X) (lb Y) = some 1 := by
  have b1 : ¬ ((nI i + (1 : Int32)) < 0 ∨ L ≤ (nI i + (1 : Int32)).toNatClampNeg) := lx (k := 1) (by omega) hL
  have b2 : ¬ ((nI i + (2 : Int32)) < 0 ∨ L ≤ (nI i + (2 : Int32)).toNatClampNeg) := lx (k := 2) (by omega) hL
  have b3 : ¬ ((nI i + (3 : Int32)) < 0 ∨ L ≤ (nI i + (3 : Int32)).toNatClampNeg) := lx (k := 3) (by omega) hL
  have b4 : ¬ ((nI i + (4 : Int32)) < 0 ∨ L ≤ (nI i + (4 : Int32)).toNatClampNeg) := lx (k := 4) (by omega) hL
  by_cases z2 : (xs (nI i + (2 : Int32)).toNatClampNeg) = 0
  · unfold f_law_978 f_law_997 f_law_1019
    simp only [if_neg b1, if_neg b2, if_neg b3, if_neg b4, if_pos z2]
    have EX := X_whole_ok hI (xs (nI i + (1 : Int32)).toNatClampNeg) (0 : Int32)
    have EY := Y_whole_ok hI (xs (nI i + (1 : Int32)).toNatClampNeg) (0 : Int32)
    rw [EX, Option.bind_some, EY, Option.bind_some]
    rw [if_pos ((lg_cmp_eq _ _).mpr rfl)]
    exact hK st hI e1 e2 e3 e4 e5 e6 e7 e8 e9 e10 e11 e12 e13 e14 e15 t1 t2 t3 X Y hX hY
  · unfold f_law_978 f_law_997 f_law_1019
    simp only [if_neg b1, if_neg b2, if_neg b3, if_neg b4, if_neg z2]
    have EX := X_whole_ok hI (xs (nI i + (1 : Int32)).toNatClampNeg) (1 : Int32)
    have EY := Y_whole_ok hI (xs (nI i + (1 : Int32)).toNatClampNeg) (1 : Int32)
    rw [EX, Option.bind_some, EY, Option.bind_some]
    rw [if_pos ((lg_cmp_eq _ _).mpr rfl)]
    exact hK st hI e1 e2 e3 e4 e5 e6 e7 e8 e9 e10 e11 e12 e13 e14 e15 t1 t2 t3 X Y hX hY
set_option maxHeartbeats 2000000 in
theorem L_cnt {L i : Nat} (hiL : i + 5 ≤ L) (hL : L ≤ 2560) (xs : Nat → Int32) (K : LK) (hK : GoodK K (nI i + (5 : Int32))) {st : ASt} (hI : Inv st) (e1 : Int32) (e2 : Int64) (e3 : Int64) (e4 : Int32) (e5 : Int32) (e6 : Int32) (e7 : Int64) (e8 : Int64) (e9 : Int32) (e10 : Int32) (e11 : Int32) (e12 : Int64) (e13 : Int64) (e14 : Int32) (e15 : Int32) (t1 : Int64) (t2 t3 : Int32) {X Y : Nat} (hX : X < 2 ^ 840) (hY : Y < 2 ^ 840) : f_law_1028 L xs K (nI i) st.2.2.1 st.2.2.2.1 st.2.2.2.2 (xM st) (xP st) e1 e2 e3 e4 e5 e6 e7 e8 e9 e10 e11 e12 e13 e14 e15 st.2.2.1 st.2.2.2.1 st.2.2.2.2 t1 t2 t3 (yO st) (yN st) (yB st) (lb X) (lb Y) = some 1 := by
  have b1 : ¬ ((nI i + (1 : Int32)) < 0 ∨ L ≤ (nI i + (1 : Int32)).toNatClampNeg) := lx (k := 1) (by omega) hL
  have b2 : ¬ ((nI i + (2 : Int32)) < 0 ∨ L ≤ (nI i + (2 : Int32)).toNatClampNeg) := lx (k := 2) (by omega) hL
  have b3 : ¬ ((nI i + (3 : Int32)) < 0 ∨ L ≤ (nI i + (3 : Int32)).toNatClampNeg) := lx (k := 3) (by omega) hL
  have b4 : ¬ ((nI i + (4 : Int32)) < 0 ∨ L ≤ (nI i + (4 : Int32)).toNatClampNeg) := lx (k := 4) (by omega) hL
  unfold f_law_1028
  simp only [if_neg b1, if_neg b2, if_neg b3, if_neg b4]
  have EX := X_cnt_ok hI (xs (nI i + (1 : Int32)).toNatClampNeg)
  have EY := Y_cnt_ok hI (xs (nI i + (1 : Int32)).toNatClampNeg)
  rw [EX, Option.bind_some, EY, Option.bind_some]
  rw [if_pos rfl]
  exact hK st hI e1 e2 e3 e4 e5 e6 e7 e8 e9 e10 e11 e12 e13 e14 e15 t1 t2 t3 X Y hX hY
set_option maxHeartbeats 2000000 in
theorem L_set {L i : Nat} (hiL : i + 5 ≤ L) (hL : L ≤ 2560) (xs : Nat → Int32) (K : LK) (hK : GoodK K (nI i + (5 : Int32))) {st : ASt} (hI : Inv st) (e1 : Int32) (e2 : Int64) (e3 : Int64) (e4 : Int32) (e5 : Int32) (e6 : Int32) (e7 : Int64) (e8 : Int64) (e9 : Int32) (e10 : Int32) (e11 : Int32) (e12 : Int64) (e13 : Int64) (e14 : Int32) (e15 : Int32) (t1 : Int64) (t2 t3 : Int32) {X Y : Nat} (hX : X < 2 ^ 840) (hY : Y < 2 ^ 840) : f_law_120 L xs K (nI i) st.2.2.1 st.2.2.2.1 st.2.2.2.2 (xM st) (xP st) e1 e2 e3 e4 e5 e6 e7 e8 e9 e10 e11 e12 e13 e14 e15 st.2.2.1 st.2.2.2.1 st.2.2.2.2 t1 t2 t3 (yO st) (yN st) (yB st) (lb X) (lb Y) = some 1 := by
  have b1 : ¬ ((nI i + (1 : Int32)) < 0 ∨ L ≤ (nI i + (1 : Int32)).toNatClampNeg) := lx (k := 1) (by omega) hL
  have b2 : ¬ ((nI i + (2 : Int32)) < 0 ∨ L ≤ (nI i + (2 : Int32)).toNatClampNeg) := lx (k := 2) (by omega) hL
  have b3 : ¬ ((nI i + (3 : Int32)) < 0 ∨ L ≤ (nI i + (3 : Int32)).toNatClampNeg) := lx (k := 3) (by omega) hL
  have b4 : ¬ ((nI i + (4 : Int32)) < 0 ∨ L ≤ (nI i + (4 : Int32)).toNatClampNeg) := lx (k := 4) (by omega) hL
  unfold f_law_120
  simp only [if_neg b1, if_neg b2, if_neg b3, if_neg b4]
  generalize ((jshl ((xs (nI i + (2 : Int32)).toNatClampNeg).toInt64) (32 : Int32)) ||| ((xs (nI i + (3 : Int32)).toNatClampNeg).toInt64 &&& (4294967295 : Int64))) = m
  have EX := X_set_ok st (xs (nI i + (1 : Int32)).toNatClampNeg) m (xs (nI i + (4 : Int32)).toNatClampNeg)
  have EY := Y_set_ok st (xs (nI i + (1 : Int32)).toNatClampNeg) m (xs (nI i + (4 : Int32)).toNatClampNeg)
  rw [EX, Option.bind_some, EY, Option.bind_some]
  rw [if_pos rfl]
  have ks := set_k st (xs (nI i + (1 : Int32)).toNatClampNeg) m (xs (nI i + (4 : Int32)).toNatClampNeg)
  have H := hK (A_set st (xs (nI i + (1 : Int32)).toNatClampNeg) m (xs (nI i + (4 : Int32)).toNatClampNeg)).2 (I_set hI (xs (nI i + (1 : Int32)).toNatClampNeg) m (xs (nI i + (4 : Int32)).toNatClampNeg)) e1 e2 e3 e4 e5 e6 e7 e8 e9 e10 e11 e12 e13 e14 e15 t1 t2 t3 X Y hX hY
  rw [ks.1, ks.2] at H
  exact H
theorem law_e {L i : Nat} (hL : L ≤ 2560) (hi : i ≤ L + 5) : (Int32.ofNat L - (5 : Int32) < nI i) ↔ L < i + 5 := by
  rw [show Int32.ofNat L = iI L from (iI_nI L).symm, show (5 : Int32) = iI 5 from rfl, iI_sub, ← iI_nI, iI_lt (by omega) (by omega) (by omega) (by omega)]; omega
set_option maxHeartbeats 4000000 in
theorem law_go {L : Nat} (hL : L ≤ 2560) (xs : Nat → Int32) : ∀ (n i : Nat), i ≤ L + 5 → L < i + 5 * (n + 1) → GoodK (f_law_18 L xs (n + 1)) (nI i) := by
  intro n
  induction n with
  | zero =>
    intro i h1 h2 st hI e1 e2 e3 e4 e5 e6 e7 e8 e9 e10 e11 e12 e13 e14 e15 t1 t2 t3 X Y hX hY
    rw [f_law_18, if_pos ((law_e hL h1).mpr (by omega))]
  | succ n ih =>
    intro i h1 h2 st hI e1 e2 e3 e4 e5 e6 e7 e8 e9 e10 e11 e12 e13 e14 e15 t1 t2 t3 X Y hX hY
    rw [f_law_18]
    by_cases h : L < i + 5
    · rw [if_pos ((law_e hL h1).mpr h)]
    · have hK : GoodK (f_law_18 L xs (n + 1)) (nI i + (5 : Int32)) := by
        have := ih (i + 5) (by omega) (by omega)
        rw [show nI i + (5 : Int32) = nI (i + 5) from nI_add i 5]; exact this
      rw [if_neg (fun q => h ((law_e hL h1).mp q)), if_neg (nI_in (show i < L by omega) (by omega))]
      by_cases c0 : (xs (nI i).toNatClampNeg &&& (31 : Int32)) = (0 : Int32)
      · rw [if_pos c0]; exact L_set (by omega) hL xs _ hK hI e1 e2 e3 e4 e5 e6 e7 e8 e9 e10 e11 e12 e13 e14 e15 t1 t2 t3 hX hY
      rw [if_neg c0]
      by_cases c1 : (xs (nI i).toNatClampNeg &&& (31 : Int32)) = (1 : Int32)
      · rw [if_pos c1]; exact L_add (by omega) hL xs _ hK hI e1 e2 e3 e4 e5 e6 e7 e8 e9 e10 e11 e12 e13 e14 e15 t1 t2 t3 hX hY
      rw [if_neg c1]
      by_cases c2 : (xs (nI i).toNatClampNeg &&& (31 : Int32)) = (2 : Int32)
      · rw [if_pos c2]; exact L_sub (by omega) hL xs _ hK hI e1 e2 e3 e4 e5 e6 e7 e8 e9 e10 e11 e12 e13 e14 e15 t1 t2 t3 hX hY
      rw [if_neg c2]
      by_cases c3 : (xs (nI i).toNatClampNeg &&& (31 : Int32)) = (3 : Int32)
      · rw [if_pos c3]; exact L_mul (by omega) hL xs _ hK hI e1 e2 e3 e4 e5 e6 e7 e8 e9 e10 e11 e12 e13 e14 e15 t1 t2 t3 hX hY
      rw [if_neg c3]
      by_cases c4 : (xs (nI i).toNatClampNeg &&& (31 : Int32)) = (4 : Int32)
      · rw [if_pos c4]; exact L_div (by omega) hL xs _ hK hI e1 e2 e3 e4 e5 e6 e7 e8 e9 e10 e11 e12 e13 e14 e15 t1 t2 t3 hX hY
      rw [if_neg c4]
      by_cases c5 : (xs (nI i).toNatClampNeg &&& (31 : Int32)) = (5 : Int32)
      · rw [if_pos c5]; exact L_fuse (by omega) hL xs _ hK hI e1 e2 e3 e4 e5 e6 e7 e8 e9 e10 e11 e12 e13 e14 e15 t1 t2 t3 hX hY
      rw [if_neg c5]
      by_cases c6 : (xs (nI i).toNatClampNeg &&& (31 : Int32)) = (6 : Int32)
      · rw [if_pos c6]; exact L_fuseN (by omega) hL xs _ hK hI e1 e2 e3 e4 e5 e6 e7 e8 e9 e10 e11 e12 e13 e14 e15 t1 t2 t3 hX hY
      rw [if_neg c6]
      by_cases c7 : (xs (nI i).toNatClampNeg &&& (31 : Int32)) = (7 : Int32)
      · rw [if_pos c7]; exact L_root (by omega) hL xs _ hK hI e1 e2 e3 e4 e5 e6 e7 e8 e9 e10 e11 e12 e13 e14 e15 t1 t2 t3 hX hY
      rw [if_neg c7]
      by_cases c8 : (xs (nI i).toNatClampNeg &&& (31 : Int32)) = (8 : Int32)
      · rw [if_pos c8]; exact L_rem (by omega) hL xs _ hK hI e1 e2 e3 e4 e5 e6 e7 e8 e9 e10 e11 e12 e13 e14 e15 t1 t2 t3 hX hY
      rw [if_neg c8]
      by_cases c9 : (xs (nI i).toNatClampNeg &&& (31 : Int32)) = (9 : Int32)
      · rw [if_pos c9]; exact L_copy (by omega) hL xs _ hK hI e1 e2 e3 e4 e5 e6 e7 e8 e9 e10 e11 e12 e13 e14 e15 t1 t2 t3 hX hY
      rw [if_neg c9]
      by_cases c10 : (xs (nI i).toNatClampNeg &&& (31 : Int32)) = (10 : Int32)
      · rw [if_pos c10]; exact L_scale (by omega) hL xs _ hK hI e1 e2 e3 e4 e5 e6 e7 e8 e9 e10 e11 e12 e13 e14 e15 t1 t2 t3 hX hY
      rw [if_neg c10]
      by_cases c11 : (xs (nI i).toNatClampNeg &&& (31 : Int32)) = (11 : Int32)
      · rw [if_pos c11]; exact L_step (by omega) hL xs _ hK hI e1 e2 e3 e4 e5 e6 e7 e8 e9 e10 e11 e12 e13 e14 e15 t1 t2 t3 hX hY
      rw [if_neg c11]
      by_cases c12 : (xs (nI i).toNatClampNeg &&& (31 : Int32)) = (12 : Int32)
      · rw [if_pos c12]; exact L_cube (by omega) hL xs _ hK hI e1 e2 e3 e4 e5 e6 e7 e8 e9 e10 e11 e12 e13 e14 e15 t1 t2 t3 hX hY
      rw [if_neg c12]
      by_cases c13 : (xs (nI i).toNatClampNeg &&& (31 : Int32)) = (13 : Int32)
      · rw [if_pos c13]; exact L_cmp (by omega) hL xs _ hK hI e1 e2 e3 e4 e5 e6 e7 e8 e9 e10 e11 e12 e13 e14 e15 t1 t2 t3 hX hY
      rw [if_neg c13]
      by_cases c14 : (xs (nI i).toNatClampNeg &&& (31 : Int32)) = (14 : Int32)
      · rw [if_pos c14]; exact L_odd (by omega) hL xs _ hK hI e1 e2 e3 e4 e5 e6 e7 e8 e9 e10 e11 e12 e13 e14 e15 t1 t2 t3 hX hY
      rw [if_neg c14]
      by_cases c15 : (xs (nI i).toNatClampNeg &&& (31 : Int32)) = (15 : Int32)
      · rw [if_pos c15]; exact L_exp (by omega) hL xs _ hK hI e1 e2 e3 e4 e5 e6 e7 e8 e9 e10 e11 e12 e13 e14 e15 t1 t2 t3 hX hY
      rw [if_neg c15]
      by_cases c16 : (xs (nI i).toNatClampNeg &&& (31 : Int32)) = (16 : Int32)
      · rw [if_pos c16]; exact L_whole (by omega) hL xs _ hK hI e1 e2 e3 e4 e5 e6 e7 e8 e9 e10 e11 e12 e13 e14 e15 t1 t2 t3 hX hY
      rw [if_neg c16]
      by_cases c17 : (xs (nI i).toNatClampNeg &&& (31 : Int32)) = (17 : Int32)
      · rw [if_pos c17]; exact L_cnt (by omega) hL xs _ hK hI e1 e2 e3 e4 e5 e6 e7 e8 e9 e10 e11 e12 e13 e14 e15 t1 t2 t3 hX hY
      rw [if_neg c17]
      exact hK st hI e1 e2 e3 e4 e5 e6 e7 e8 e9 e10 e11 e12 e13 e14 e15 t1 t2 t3 X Y hX hY
def st0 : ASt := (fun _ => false, fun _ => 0, 0, 0, 0)
theorem Inv0 : Inv st0 := fun _ => ⟨Or.inl rfl, fun q => absurd (show false = true from q) (by decide)⟩
theorem st0_x : xM st0 = (fun _ => 0) ∧ xP st0 = (fun _ => 0) ∧ yO st0 = (fun _ => 0) ∧ yN st0 = (fun _ => 0) ∧ yB st0 = (fun _ => 0) := by
  refine ⟨funext fun _ => ?_, funext fun _ => ?_, funext fun _ => ?_, funext fun _ => ?_, funext fun _ => ?_⟩
  · show lI (mz false 0) = 0; decide
  · show iI (pz 0) = 0; decide
  · show lN (od 0) = 0; unfold od; rw [Nat.zero_div]; rfl
  · show iI (ez 0) = 0; decide
  · rfl
theorem law_all : law_ok := by
  intro L xs hL
  have H := law_go hL xs 999 0 (by omega) (by omega) st0 Inv0 0 0 0 0 0 0 0 0 0 0 0 0 0 0 0 0 0 0 0 0 (Nat.two_pow_pos _) (Nat.two_pow_pos _)
  obtain ⟨a1, a2, a3, a4, a5⟩ := st0_x
  rw [a1, a2, a3, a4, a5, ← lb_0] at H
  exact H
