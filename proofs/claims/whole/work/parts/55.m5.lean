/-! PURE: Exact, going on: takeLesser, roundTo -/
theorem lN_c {X Y : Nat} (h : X % 2 ^ 64 = Y % 2 ^ 64) : lN X = lN Y := by rw [wb_mod X, h, ← wb_mod]
theorem lN_subw {a b : Nat} (h : b ≤ a + 2 ^ 64) : lN a - lN b = lN (a + 2 ^ 64 - b) := by
  rw [← lN_sub h]; exact congrArg (· - lN b) (lN_c (by omega))
theorem sD0 {V : Nat} {p1 p2 : Int} (hV : V < 2 ^ 128) (h : p2 ≤ p1) (h2 : p1 - p2 < 100000) : f_E_shiftDown (hW V) (lW V) (iI p2) (bI false) (iI p1 - iI p2) = some (hW (V / 2 ^ (p1 - p2).toNat), lW (V / 2 ^ (p1 - p2).toNat), iI p1, bI (decide (V % 2 ^ (p1 - p2).toNat ≠ 0))) := by
  rw [iI_sub]
  by_cases hk : p1 - p2 ≤ 0
  · have e : p1 = p2 := by omega
    subst e
    rw [sD_none hk (by omega), show (p1 - p1).toNat = 0 by omega, Nat.pow_zero, Nat.div_one, Nat.mod_one]
    rfl
  · rw [sD_ok hV (by omega) h2, show p2 + (p1 - p2) = p1 by omega, Bool.false_or]
theorem tl_same {V1 V2 W : Nat} {p1 p2 : Int} {sg mo : Int32} {s : Bool} (h1 : V1 < 2 ^ 126) (h2 : V2 < 2 ^ 126) (h : p2 ≤ p1) (hd : p1 - p2 < 100000) (hW' : W = V2 / 2 ^ (p1 - p2).toNat) (hs : s = decide (V2 % 2 ^ (p1 - p2).toNat ≠ 0)) :
    f_E_takeLesser sg (hW V1) (lW V1) (iI p1) mo sg (hW V2) (lW V2) (iI p2) (bI false) = some (sg, hW (V1 + W), lW (V1 + W), bI s, hW W, lW W, iI p1, bI s) := by
  unfold f_E_takeLesser
  rw [sD0 (by omega) h hd, ← hW', ← hs]
  simp only [Option.bind_some]
  rw [if_pos (bI_01 s), if_pos trivial]
  have hWb : W < 2 ^ 126 := by rw [hW']; exact Nat.lt_of_le_of_lt (Nat.div_le_self _ _) h2
  have e1 := Nat.div_add_mod V1 (2 ^ 64)
  have e2 := Nat.div_add_mod W (2 ^ 64)
  have e3 := Nat.div_add_mod (V1 + W) (2 ^ 64)
  have l1 := lW_lt V1
  have l2 := lW_lt W
  have l3 := lW_lt (V1 + W)
  have hlo : lW V1 + lW W = lW (V1 + W) := by
    unfold lW; rw [lN_add]; exact lN_c (by omega)
  have hc : f_J_compareUnsigned (lW (V1 + W)) (lW W) = _ := cmpU_ok l3 l2
  rw [hlo, hc]
  simp only [Option.bind_some]
  by_cases hcar : (V1 + W) % 2 ^ 64 < W % 2 ^ 64
  · rw [if_pos hcar, if_neg (by decide)]
    have : hW V1 + (hW W + (1 : Int32).toInt64) = hW (V1 + W) := by
      unfold hW; rw [show (1 : Int32).toInt64 = lN 1 from rfl, lN_add, lN_add]; exact congrArg lN (by omega)
    rw [this]
  · rw [if_neg hcar]
    have : hW V1 + (hW W + (0 : Int32).toInt64) = hW (V1 + W) := by
      unfold hW; rw [show (0 : Int32).toInt64 = lN 0 from rfl, lN_add, lN_add]; exact congrArg lN (by omega)
    have hq : (0 : Int32) ≤ (if (V1 + W) % 2 ^ 64 = W % 2 ^ 64 then 0 else 1) := by split <;> decide
    rw [this, if_pos hq]
theorem tl_167 {V W : Nat} {sg pl sg2 pl2 : Int32} {mo mo2 : Int32} (hV : V < 2 ^ 128) : f_E_takeLesser_167 sg (hW V) (lW V) pl mo sg2 (hW W) (lW W) pl2 mo2 = some ((if V = 0 then 0 else sg), hW V, lW V, mo, hW W, lW W, pl2, mo2) := by
  unfold f_E_takeLesser_167
  have e1 := Nat.div_add_mod V (2 ^ 64)
  have hh : lg_cmp (hW V) (0 : Int64) = 0 ↔ V / 2 ^ 64 = 0 := cz (hW_lt hV)
  have hl : lg_cmp (lW V) (0 : Int64) = 0 ↔ V % 2 ^ 64 = 0 := cz (lW_lt V)
  by_cases a : V / 2 ^ 64 = 0
  · rw [if_pos (hh.mpr a)]
    by_cases b : V % 2 ^ 64 = 0
    · rw [if_pos (hl.mpr b), if_pos (by omega)]
    · rw [if_neg (fun z => b (hl.mp z)), if_neg (fun z => b (by rw [z]))]
  · rw [if_neg (fun z => a (hh.mp z)), if_neg (fun z => a (by rw [z]))]
theorem tl_diff {V1 V2 W : Nat} {p1 p2 : Int} {sg sg2 mo : Int32} {s : Bool} (hsg : ¬ sg = sg2) (h1 : V1 < 2 ^ 126) (h2 : V2 < 2 ^ 126) (h : p2 ≤ p1) (hd : p1 - p2 < 100000) (hW' : W = V2 / 2 ^ (p1 - p2).toNat) (hs : s = decide (V2 % 2 ^ (p1 - p2).toNat ≠ 0)) (hge : W + s.toNat ≤ V1) :
    f_E_takeLesser sg (hW V1) (lW V1) (iI p1) mo sg2 (hW V2) (lW V2) (iI p2) (bI false) = some ((if V1 - W - s.toNat = 0 then 0 else sg), hW (V1 - W - s.toNat), lW (V1 - W - s.toNat), bI s, hW W, lW W, iI p1, bI s) := by
  unfold f_E_takeLesser
  rw [sD0 (by omega) h hd, ← hW', ← hs]
  simp only [Option.bind_some]
  rw [if_pos (bI_01 s), if_neg hsg]
  have hWb : W < 2 ^ 126 := by rw [hW']; exact Nat.lt_of_le_of_lt (Nat.div_le_self _ _) h2
  have e1 := Nat.div_add_mod V1 (2 ^ 64)
  have e2 := Nat.div_add_mod W (2 ^ 64)
  have l1 := lW_lt V1
  have l2 := lW_lt W
  have hc : f_J_compareUnsigned (lW V1) (lW W) = _ := cmpU_ok l1 l2
  rw [hc]
  simp only [Option.bind_some]
  have hWV : W ≤ V1 := by omega
  have e3 := Nat.div_add_mod (V1 - W) (2 ^ 64)
  have l3 := lW_lt (V1 - W)
  have hlo : lW V1 - lW W = lW (V1 - W) := by
    unfold lW; rw [lN_subw (by omega)]; exact lN_c (by omega)
  -- the block behind the borrow
  have key : ∀ b : Int32, hW V1 - (hW W + b.toInt64) = hW (V1 - W) → f_E_takeLesser_108 b (hW W) (hW V1) sg (hW V1) (lW V1) (iI p1) (bI s) sg2 (hW W) (lW W) (iI p1) (bI s) = some ((if V1 - W - s.toNat = 0 then 0 else sg), hW (V1 - W - s.toNat), lW (V1 - W - s.toNat), bI s, hW W, lW W, iI p1, bI s) := by
    intro b hb
    unfold f_E_takeLesser_108
    rw [hlo, hb]
    cases s with
    | false =>
      rw [if_pos (show bI false = 0 from rfl), tl_167 (by omega)]
      rfl
    | true =>
      rw [if_neg (by decide)]
      have hl : lg_cmp (lW (V1 - W)) (0 : Int64) = 0 ↔ (V1 - W) % 2 ^ 64 = 0 := cz l3
      have hge' : W + 1 ≤ V1 := hge
      have e4 := Nat.div_add_mod (V1 - W - 1) (2 ^ 64)
      have l4 := lW_lt (V1 - W - 1)
      have hlo2 : lW (V1 - W) - 1 = lW (V1 - W - 1) := by
        unfold lW; rw [show (1 : Int64) = lN 1 from rfl, lN_subw (by omega)]; exact lN_c (by omega)
      show _ = some ((if V1 - W - 1 = 0 then 0 else sg), hW (V1 - W - 1), lW (V1 - W - 1), _)
      by_cases z : (V1 - W) % 2 ^ 64 = 0
      · rw [if_pos (hl.mpr z)]
        unfold f_E_takeLesser_153
        have hhi : hW (V1 - W) - 1 = hW (V1 - W - 1) := by
          unfold hW; rw [show (1 : Int64) = lN 1 from rfl, lN_sub (by omega)]; exact congrArg lN (by omega)
        rw [hhi, hlo2, tl_167 (by omega)]
      · rw [if_neg (fun q => z (hl.mp q))]
        unfold f_E_takeLesser_153
        have hhi : hW (V1 - W) - 0 = hW (V1 - W - 1) := by
          unfold hW; rw [show (0 : Int64) = lN 0 from rfl, lN_sub (by omega)]; exact congrArg lN (by omega)
        rw [hhi, hlo2, tl_167 (by omega)]
  by_cases hbor : V1 % 2 ^ 64 < W % 2 ^ 64
  · rw [if_pos hbor, if_neg (by decide)]
    refine key 1 ?_
    unfold hW; rw [show (1 : Int32).toInt64 = lN 1 from rfl, lN_add, lN_sub (by omega)]; exact congrArg lN (by omega)
  · rw [if_neg hbor]
    have : (0 : Int32) ≤ (if V1 % 2 ^ 64 = W % 2 ^ 64 then 0 else 1) := by split <;> decide
    rw [if_pos this]
    refine key 0 ?_
    unfold hW; rw [show (0 : Int32).toInt64 = lN 0 from rfl, lN_add, lN_sub (by omega)]; exact congrArg lN (by omega)
theorem l0 (x : Int64) : x + lN 0 = x := Int64.add_zero x
theorem rt_122 {ex up : Bool} {sg : Int} {hi lo : Int64} {pl mo : Int32} : f_E_roundTo_122 (bI ex) (bI up) (iI sg) hi lo pl mo = some (iI (sg * (if up = true then 1 else if ex = true then 0 else -1)), hi, lo + lN up.toNat, pl, 0) := by
  unfold f_E_roundTo_122
  cases up <;> cases ex
  · rw [if_pos (show bI false = 0 from rfl), if_pos (show bI false = 0 from rfl), iI_neg]
    show some (_, hi, lo, pl, (0 : Int32)) = some (iI (sg * -1), hi, lo + lN 0, pl, 0)
    rw [l0, show sg * -1 = -sg by omega]
  · rw [if_pos (show bI false = 0 from rfl), if_neg (show ¬ bI true = 0 by decide)]
    show some (_, hi, lo, pl, (0 : Int32)) = some (iI (sg * 0), hi, lo + lN 0, pl, 0)
    rw [l0, show sg * 0 = 0 by omega]; rfl
  · rw [if_neg (show ¬ bI true = 0 by decide)]
    show some (_, hi, _, pl, (0 : Int32)) = some (iI (sg * 1), hi, _, pl, 0)
    rw [show sg * 1 = sg by omega]; rfl
  · rw [if_neg (show ¬ bI true = 0 by decide)]
    show some (_, hi, _, pl, (0 : Int32)) = some (iI (sg * 1), hi, _, pl, 0)
    rw [show sg * 1 = sg by omega]; rfl
theorem rt_63 {V d : Nat} {p sg : Int} {s ex : Bool} {hi : Int64} (hd : 1 ≤ d) (hd2 : d < 62) (hV : V < 2 ^ 62) (hp1 : -100000 < p) (hp2 : p < 100000) :
    f_E_roundTo_63 (iI d) (lN (2 ^ (d - 1))) (lN (V % 2 ^ d)) (bI ex) (iI sg) hi (lN V) (iI p) (bI s) = some (iI (sg * (if rup V d s = true then 1 else if ex = true then 0 else -1)), hi, lN (V / 2 ^ d + (rup V d s).toNat), iI (p + d), 0) := by
  have hp : (2 : Nat) ^ d = 2 * 2 ^ (d - 1) := by rw [Nat.mul_comm, ← Nat.pow_succ]; congr 1; omega
  have hpl : (2 : Nat) ^ d < 2 ^ 63 := Nat.pow_lt_pow_right (by decide) (by omega)
  have hm := Nat.mod_lt V (Nat.two_pow_pos d)
  have hdv : V / 2 ^ d ≤ V := Nat.div_le_self _ _
  have c1 : (0 < lg_cmp (lN (V % 2 ^ d)) (lN (2 ^ (d - 1)))) ↔ 2 ^ d < 2 * (V % 2 ^ d) := by
    rw [lg_cmp_gt, pk_lLT (by omega) (by omega)]; omega
  have c2 : (lg_cmp (lN (V % 2 ^ d)) (lN (2 ^ (d - 1))) = 0) ↔ 2 * (V % 2 ^ d) = 2 ^ d := by
    rw [lg_cmp_eq, pk_lEQ (by omega) (by omega)]; omega
  have c3 : (lg_cmp (lN (V / 2 ^ d) &&& (1 : Int64)) (1 : Int64) = 0) ↔ V / 2 ^ d % 2 = 1 := by
    rw [lg_cmp_eq, wb_a1 (by omega)]; exact pk_lEQ (b := 1) (by omega) (by decide)
  have fin : ∀ u : Bool, rup V d s = u → f_E_roundTo_122 (bI ex) (bI u) (iI sg) hi (lN (V / 2 ^ d)) (iI (p + d)) (bI s) = some (iI (sg * (if rup V d s = true then 1 else if ex = true then 0 else -1)), hi, lN (V / 2 ^ d + (rup V d s).toNat), iI (p + d), 0) := by
    intro u hu; rw [rt_122, hu, lN_add]
  have ri := rup_iff V d s
  unfold f_E_roundTo_63
  rw [jushr_i (by omega) (by omega) (by omega), Int.toNat_natCast, iI_add, show (1 : Int32) = bI true from rfl, show (0 : Int32) = bI false from rfl]
  have c1' : (bI false < lg_cmp (lN (V % 2 ^ d)) (lN (2 ^ (d - 1)))) ↔ 2 ^ d < 2 * (V % 2 ^ d) := c1
  have c2' : (lg_cmp (lN (V % 2 ^ d)) (lN (2 ^ (d - 1))) = bI false) ↔ 2 * (V % 2 ^ d) = 2 ^ d := c2
  have c3' : (lg_cmp (lN (V / 2 ^ d) &&& (1 : Int64)) (1 : Int64) = bI false) ↔ V / 2 ^ d % 2 = 1 := c3
  by_cases a1 : 2 ^ d < 2 * (V % 2 ^ d)
  · rw [if_pos (c1'.mpr a1)]; exact fin true (ri.mpr (Or.inl a1))
  · rw [if_neg (fun z => a1 (c1'.mp z))]
    by_cases a2 : 2 * (V % 2 ^ d) = 2 ^ d
    · rw [if_pos (c2'.mpr a2)]
      cases s with
      | true => rw [if_neg (by decide)]; exact fin true (ri.mpr (Or.inr ⟨a2, Or.inl rfl⟩))
      | false =>
        rw [if_pos rfl]
        by_cases a3 : V / 2 ^ d % 2 = 1
        · rw [if_pos (c3'.mpr a3)]; exact fin true (ri.mpr (Or.inr ⟨a2, Or.inr a3⟩))
        · rw [if_neg (fun z => a3 (c3'.mp z))]
          refine fin false (Bool.eq_false_iff.mpr (fun z => ?_))
          rcases ri.mp z with q | ⟨-, q | q⟩
          · exact a1 q
          · cases q
          · exact a3 q
    · rw [if_neg (fun z => a2 (c2'.mp z))]
      refine fin false (Bool.eq_false_iff.mpr (fun z => ?_))
      rcases ri.mp z with q | ⟨q, -⟩
      · exact a1 q
      · exact a2 q
